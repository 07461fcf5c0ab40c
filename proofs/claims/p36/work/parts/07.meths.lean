def px_never : px_A := fun _ _ _ _ _ => none
theorem ok_never {mm : Nat → Option px_M} {own : String} {cc : ByteArray} {nL : Nat} {ret : Option FieldType} {pc : Nat} : px_ok mm own cc nL ret pc px_never := by
  intro p l e R s m args below meth c cells slots Q A ad D tc cb X _ lv st h r hr
  cases hr
theorem fr_never : px_fr px_never := by
  intro b X cb cb' _ pc lv st h r hi hr
  cases hr
abbrev px_iadd : px_A := px_bin (fun x y => x + y)
abbrev px_isub : px_A := px_bin (fun x y => x - y)
abbrev px_imul : px_A := px_bin (fun x y => x * y)
abbrev px_iand : px_A := px_bin (fun x y => x &&& y)
abbrev px_ixor : px_A := px_bin (fun x y => x ^^^ y)
abbrev px_ishl : px_A := px_bin (fun x y => x <<< (y &&& 31))
abbrev px_ishr : px_A := px_bin (fun x y => x >>> (y &&& 31))
abbrev px_iushr : px_A := px_bin (fun x y => (x.toUInt32 >>> (y.toUInt32 &&& Int32.toUInt32 31)).toInt32)
abbrev px_idiv : px_A := px_bin0 (fun x y => x / y)
abbrev px_irem : px_A := px_bin0 (fun x y => x - x / y * y)
abbrev px_ineg : px_A := px_un (fun x => -x)
abbrev px_i2b : px_A := px_un (fun x => x.toInt8.toInt32)
abbrev px_i2s : px_A := px_un (fun x => x.toInt16.toInt32)
abbrev px_i2c : px_A := px_un (fun x => (x.toUInt32 % 65536).toInt32)
abbrev px_land : px_A := px_lbin (fun x y => x &&& y)
abbrev px_lor : px_A := px_lbin (fun x y => x ||| y)
abbrev px_lshl : px_A := px_lsh (fun x y => x <<< (y.toInt64 &&& 63))
abbrev px_lshr : px_A := px_lsh (fun x y => x >>> (y.toInt64 &&& 63))
abbrev px_lushr : px_A := px_lsh (fun x y => (x.toUInt64 >>> (y.toInt64.toUInt64 &&& Int64.toUInt64 63)).toInt64)
abbrev px_max : px_A := px_mx (fun x y => if x < y then y else x)
abbrev px_min : px_A := px_mx (fun x y => if y < x then y else x)
abbrev px_if_eq (t : Nat) : px_A := px_if (fun x => decide (x = 0)) t
abbrev px_icmp_eq (t : Nat) : px_A := px_icmp (fun x y => decide (x = y)) t
abbrev px_if_ne (t : Nat) : px_A := px_if (fun x => !decide (x = 0)) t
abbrev px_icmp_ne (t : Nat) : px_A := px_icmp (fun x y => !decide (x = y)) t
abbrev px_if_lt (t : Nat) : px_A := px_if (fun x => decide (x < 0)) t
abbrev px_icmp_lt (t : Nat) : px_A := px_icmp (fun x y => decide (x < y)) t
abbrev px_if_ge (t : Nat) : px_A := px_if (fun x => decide (0 ≤ x)) t
abbrev px_icmp_ge (t : Nat) : px_A := px_icmp (fun x y => decide (y ≤ x)) t
abbrev px_if_gt (t : Nat) : px_A := px_if (fun x => decide (0 < x)) t
abbrev px_icmp_gt (t : Nat) : px_A := px_icmp (fun x y => decide (y < x)) t
abbrev px_if_le (t : Nat) : px_A := px_if (fun x => decide (x ≤ 0)) t
abbrev px_icmp_le (t : Nat) : px_A := px_icmp (fun x y => decide (x ≤ y)) t
theorem inw_0 : ∀ w ∈ u_ws RX0 TX0 10, w ∈ px_words := fun w h => by
  have h2 : w ∈ ([.laysFinal "FromTheMiddle$Kept" "FromTheMiddle$Kept" "wall" "LFromTheMiddle$Numbers;", .laysFinal "FromTheMiddle$Kept" "FromTheMiddle$Kept" "kinds" "LFromTheMiddle$Numbers;", .laysFinal "FromTheMiddle$Kept" "FromTheMiddle$Kept" "marks" "LFromTheMiddle$Numbers;", .laysFinal "FromTheMiddle$Kept" "FromTheMiddle$Kept" "froms" "LFromTheMiddle$Numbers;", .laysFinal "FromTheMiddle$Kept" "FromTheMiddle$Kept" "widths" "LFromTheMiddle$Numbers;", .laysFinal "FromTheMiddle$Kept" "FromTheMiddle$Kept" "tape" "LFromTheMiddle$Numbers;", .laysFinal "FromTheMiddle$Kept" "FromTheMiddle$Kept" "broken" "LFromTheMiddle$Numbers;", .laysFinal "FromTheMiddle$Kept" "FromTheMiddle$Kept" "harm" "LFromTheMiddle$Numbers;", .laysFinal "FromTheMiddle$Kept" "FromTheMiddle$Kept" "waits" "LFromTheMiddle$Numbers;", .lays "FromTheMiddle$Kept" "FromTheMiddle$Kept" "z" "I"] : List Cond) := h
  simp only [List.mem_cons, List.not_mem_nil, or_false] at h2
  rcases h2 with rfl | rfl | rfl | rfl | rfl | rfl | rfl | rfl | rfl | rfl
  · exact wq_154
  · exact wq_156
  · exact wq_158
  · exact wq_160
  · exact wq_162
  · exact wq_164
  · exact wq_166
  · exact wq_168
  · exact wq_170
  · exact wq_172
theorem inw_1 : ∀ w ∈ u_ws RX1 TX1 2, w ∈ px_words := fun w h => by
  have h2 : w ∈ ([.laysFinal "FromTheMiddle$Numbers" "FromTheMiddle$Numbers" "held" "[I", .lays "FromTheMiddle$Numbers" "FromTheMiddle$Numbers" "size" "I"] : List Cond) := h
  simp only [List.mem_cons, List.not_mem_nil, or_false] at h2
  rcases h2 with rfl | rfl
  · exact wq_126
  · exact wq_128
theorem inw_2 : ∀ w ∈ u_ws RX2 TX2 5, w ∈ px_words := fun w h => by
  have h2 : w ∈ ([.laysFinal "FromTheMiddle$Reader" "FromTheMiddle$Reader" "codes" "LFromTheMiddle$Numbers;", .laysFinal "FromTheMiddle$Reader" "FromTheMiddle$Reader" "pending" "LFromTheMiddle$Numbers;", .lays "FromTheMiddle$Reader" "FromTheMiddle$Reader" "open" "I", .lays "FromTheMiddle$Reader" "FromTheMiddle$Reader" "digits" "I", .lays "FromTheMiddle$Reader" "FromTheMiddle$Reader" "wantsOperand" "Z"] : List Cond) := h
  simp only [List.mem_cons, List.not_mem_nil, or_false] at h2
  rcases h2 with rfl | rfl | rfl | rfl | rfl
  · exact wq_248
  · exact wq_250
  · exact wq_252
  · exact wq_254
  · exact wq_256
theorem inw_3 : ∀ w ∈ u_ws RX3 TX3 1, w ∈ px_words := fun w h => by
  have h2 : w ∈ ([.laysFinal "FromTheMiddle$Reckoner" "FromTheMiddle$Reckoner" "stack" "LFromTheMiddle$Numbers;"] : List Cond) := h
  simp only [List.mem_cons, List.not_mem_nil, or_false] at h2
  rcases h2 with rfl
  exact wq_268
theorem inw_4 : ∀ w ∈ u_ws RX4 TX4 9, w ∈ px_words := fun w h => by
  have h2 : w ∈ ([.lays "FromTheMiddle$Row" "FromTheMiddle$Row" "first" "I", .lays "FromTheMiddle$Row" "FromTheMiddle$Row" "end" "I", .lays "FromTheMiddle$Row" "FromTheMiddle$Row" "tile" "I", .lays "FromTheMiddle$Row" "FromTheMiddle$Row" "joint" "I", .lays "FromTheMiddle$Row" "FromTheMiddle$Row" "pieces" "I", .lays "FromTheMiddle$Row" "FromTheMiddle$Row" "joints" "I", .lays "FromTheMiddle$Row" "FromTheMiddle$Row" "gap" "I", .lays "FromTheMiddle$Row" "FromTheMiddle$Row" "touches" "I", .lays "FromTheMiddle$Row" "FromTheMiddle$Row" "hides" "I"] : List Cond) := h
  simp only [List.mem_cons, List.not_mem_nil, or_false] at h2
  rcases h2 with rfl | rfl | rfl | rfl | rfl | rfl | rfl | rfl | rfl
  · exact wq_215
  · exact wq_217
  · exact wq_219
  · exact wq_221
  · exact wq_223
  · exact wq_225
  · exact wq_227
  · exact wq_229
  · exact wq_231
theorem inw_5 : ∀ w ∈ u_ws RX5 TX5 2, w ∈ px_words := fun w h => by
  have h2 : w ∈ ([.laysFinal "FromTheMiddle$Sheet" "FromTheMiddle$Sheet" "numbers" "LFromTheMiddle$Numbers;", .lays "FromTheMiddle$Sheet" "FromTheMiddle$Sheet" "bits" "I"] : List Cond) := h
  simp only [List.mem_cons, List.not_mem_nil, or_false] at h2
  rcases h2 with rfl | rfl
  · exact wq_190
  · exact wq_192
theorem inw_6 : ∀ w ∈ u_ws RX6 TX6 4, w ∈ px_words := fun w h => by
  have h2 : w ∈ ([.laysFinal "FromTheMiddle$Voices" "FromTheMiddle$Voices" "trace" "LFromTheMiddle$Numbers;", .lays "FromTheMiddle$Voices" "FromTheMiddle$Voices" "kind" "I", .lays "FromTheMiddle$Voices" "FromTheMiddle$Voices" "number" "I", .lays "FromTheMiddle$Voices" "FromTheMiddle$Voices" "mark" "I"] : List Cond) := h
  simp only [List.mem_cons, List.not_mem_nil, or_false] at h2
  rcases h2 with rfl | rfl | rfl | rfl
  · exact wq_284
  · exact wq_286
  · exact wq_288
  · exact wq_290
theorem inw_7 : ∀ w ∈ u_ws RX7 TX7 9, w ∈ px_words := fun w h => by
  have h2 : w ∈ ([.laysFinal "FromTheMiddle" "FromTheMiddle" "now" "LFromTheMiddle$Kept;", .laysFinal "FromTheMiddle" "FromTheMiddle" "kept" "LFromTheMiddle$Kept;", .lays "FromTheMiddle" "FromTheMiddle" "images" "I", .laysFinal "FromTheMiddle" "FromTheMiddle" "errors" "LFromTheMiddle$Numbers;", .laysFinal "FromTheMiddle" "FromTheMiddle" "sheets" "[LFromTheMiddle$Sheet;", .laysFinal "FromTheMiddle" "FromTheMiddle" "laid" "LFromTheMiddle$Row;", .laysFinal "FromTheMiddle" "FromTheMiddle" "reader" "LFromTheMiddle$Reader;", .laysFinal "FromTheMiddle" "FromTheMiddle" "reckoner" "LFromTheMiddle$Reckoner;", .laysFinal "FromTheMiddle" "FromTheMiddle" "voices" "LFromTheMiddle$Voices;"] : List Cond) := h
  simp only [List.mem_cons, List.not_mem_nil, or_false] at h2
  rcases h2 with rfl | rfl | rfl | rfl | rfl | rfl | rfl | rfl | rfl
  · exact wq_309
  · exact wq_311
  · exact wq_313
  · exact wq_315
  · exact wq_317
  · exact wq_319
  · exact wq_321
  · exact wq_323
  · exact wq_325
theorem inw_8 : ∀ w ∈ u_ws RX8 TX8 24, w ∈ px_words := fun w h => by
  have h2 : w ∈ ([.laysFinal "FromTheMiddleModel" "FromTheMiddleModel" "s" "[I", .laysFinal "FromTheMiddleModel" "FromTheMiddleModel" "kept" "[I", .lays "FromTheMiddleModel" "FromTheMiddleModel" "images" "I", .laysFinal "FromTheMiddleModel" "FromTheMiddleModel" "errors" "[I", .laysFinal "FromTheMiddleModel" "FromTheMiddleModel" "lows" "[I", .laysFinal "FromTheMiddleModel" "FromTheMiddleModel" "highs" "[I", .lays "FromTheMiddleModel" "FromTheMiddleModel" "at" "I", .lays "FromTheMiddleModel" "FromTheMiddleModel" "open" "I", .lays "FromTheMiddleModel" "FromTheMiddleModel" "steps" "I", .lays "FromTheMiddleModel" "FromTheMiddleModel" "use" "I", .laysFinal "FromTheMiddleModel" "FromTheMiddleModel" "step" "[I", .laysFinal "FromTheMiddleModel" "FromTheMiddleModel" "named" "[I", .laysFinal "FromTheMiddleModel" "FromTheMiddleModel" "pile" "[I", .laysFinal "FromTheMiddleModel" "FromTheMiddleModel" "left" "[I", .laysFinal "FromTheMiddleModel" "FromTheMiddleModel" "wide" "[I", .lays "FromTheMiddleModel" "FromTheMiddleModel" "pieces" "I", .lays "FromTheMiddleModel" "FromTheMiddleModel" "traced" "I", .laysFinal "FromTheMiddleModel" "FromTheMiddleModel" "trace" "[I", .lays "FromTheMiddleModel" "FromTheMiddleModel" "speaks" "I", .lays "FromTheMiddleModel" "FromTheMiddleModel" "isParted" "Z", .laysFinal "FromTheMiddleModel" "FromTheMiddleModel" "bits" "[I", .laysFinal "FromTheMiddleModel" "FromTheMiddleModel" "sizes" "[I", .laysFinal "FromTheMiddleModel" "FromTheMiddleModel" "number" "[I", .laysFinal "FromTheMiddleModel" "FromTheMiddleModel" "aside" "[I"] : List Cond) := h
  simp only [List.mem_cons, List.not_mem_nil, or_false] at h2
  rcases h2 with rfl | rfl | rfl | rfl | rfl | rfl | rfl | rfl | rfl | rfl | rfl | rfl | rfl | rfl | rfl | rfl | rfl | rfl | rfl | rfl | rfl | rfl | rfl | rfl
  · exact wq_923
  · exact wq_925
  · exact wq_927
  · exact wq_929
  · exact wq_931
  · exact wq_933
  · exact wq_935
  · exact wq_937
  · exact wq_939
  · exact wq_941
  · exact wq_943
  · exact wq_945
  · exact wq_947
  · exact wq_949
  · exact wq_951
  · exact wq_953
  · exact wq_955
  · exact wq_957
  · exact wq_959
  · exact wq_961
  · exact wq_963
  · exact wq_965
  · exact wq_967
  · exact wq_969
def pm_0 : px_M := (⟨"FromTheMiddle$Kept", "textOf", "(I)LFromTheMiddle$Numbers;"⟩, prog_2_method_2_code, 2, (some (.object "FromTheMiddle$Numbers")))
def pm_1 : px_M := (⟨"FromTheMiddle$Kept", "copy", "(LFromTheMiddle$Kept;)V"⟩, prog_2_method_3_code, 2, none)
def pm_2 : px_M := (⟨"FromTheMiddle$Numbers", "size", "()I"⟩, prog_3_method_2_code, 1, (some .int))
def pm_3 : px_M := (⟨"FromTheMiddle$Numbers", "room", "()I"⟩, prog_3_method_3_code, 1, (some .int))
def pm_4 : px_M := (⟨"FromTheMiddle$Numbers", "stands", "(I)Z"⟩, prog_3_method_4_code, 2, (some .boolean))
def pm_5 : px_M := (⟨"FromTheMiddle$Numbers", "stretches", "(II)Z"⟩, prog_3_method_5_code, 3, (some .boolean))
def pm_6 : px_M := (⟨"FromTheMiddle$Numbers", "get", "(I)I"⟩, prog_3_method_6_code, 2, (some .int))
def pm_7 : px_M := (⟨"FromTheMiddle$Numbers", "set", "(II)V"⟩, prog_3_method_7_code, 3, none)
def pm_8 : px_M := (⟨"FromTheMiddle$Numbers", "add", "(I)V"⟩, prog_3_method_8_code, 2, none)
def pm_9 : px_M := (⟨"FromTheMiddle$Numbers", "pop", "()I"⟩, prog_3_method_9_code, 1, (some .int))
def pm_10 : px_M := (⟨"FromTheMiddle$Numbers", "clear", "()V"⟩, prog_3_method_10_code, 1, none)
def pm_11 : px_M := (⟨"FromTheMiddle$Numbers", "fillWithZeros", "(I)V"⟩, prog_3_method_11_code, 3, none)
def pm_12 : px_M := (⟨"FromTheMiddle$Numbers", "take", "(LFromTheMiddle$Numbers;III)V"⟩, prog_3_method_12_code, 5, none)
def pm_13 : px_M := (⟨"FromTheMiddle$Numbers", "copy", "(LFromTheMiddle$Numbers;)V"⟩, prog_3_method_13_code, 2, none)
def pm_14 : px_M := (⟨"FromTheMiddle$Reader", "read", "(LFromTheMiddle$Numbers;Ljava/lang/String;)I"⟩, prog_4_method_2_code, 6, (some .int))
def pm_15 : px_M := (⟨"FromTheMiddle$Reader", "beginOperand", "(ILjava/lang/String;)Z"⟩, prog_4_method_3_code, 4, (some .boolean))
def pm_16 : px_M := (⟨"FromTheMiddle$Reader", "goOn", "(I)Z"⟩, prog_4_method_4_code, 3, (some .boolean))
def pm_17 : px_M := (⟨"FromTheMiddle$Reader", "addDigit", "(I)Z"⟩, prog_4_method_5_code, 2, (some .boolean))
def pm_18 : px_M := (⟨"FromTheMiddle$Reader", "close", "()Z"⟩, prog_4_method_6_code, 1, (some .boolean))
def pm_19 : px_M := (⟨"FromTheMiddle$Reader", "settle", "(I)V"⟩, prog_4_method_7_code, 4, none)
def pm_20 : px_M := (⟨"FromTheMiddle$Reader", "isDigit", "(I)Z"⟩, prog_4_method_8_code, 1, (some .boolean))
def pm_21 : px_M := (⟨"FromTheMiddle$Reader", "rankOf", "(I)I"⟩, prog_4_method_9_code, 1, (some .int))
def pm_22 : px_M := (⟨"FromTheMiddle$Reckoner", "value", "(LFromTheMiddle$Numbers;III)I"⟩, prog_5_method_2_code, 7, (some .int))
def pm_23 : px_M := (⟨"FromTheMiddle$Reckoner", "joined", "(I)I"⟩, prog_5_method_3_code, 4, (some .int))
def pm_24 : px_M := (⟨"FromTheMiddle$Reckoner", "truth", "(Z)I"⟩, prog_5_method_4_code, 1, (some .int))
def pm_25 : px_M := (⟨"FromTheMiddle$Row", "lay", "(IIII)V"⟩, prog_6_method_2_code, 5, none)
def pm_26 : px_M := (⟨"FromTheMiddle$Row", "beginning", "(I)I"⟩, prog_6_method_3_code, 2, (some .int))
def pm_27 : px_M := (⟨"FromTheMiddle$Row", "ending", "(I)I"⟩, prog_6_method_4_code, 2, (some .int))
def pm_28 : px_M := (⟨"FromTheMiddle$Row", "width", "(I)I"⟩, prog_6_method_5_code, 2, (some .int))
def pm_29 : px_M := (⟨"FromTheMiddle$Row", "narrowest", "()I"⟩, prog_6_method_6_code, 1, (some .int))
def pm_30 : px_M := (⟨"FromTheMiddle$Row", "cuts", "()I"⟩, prog_6_method_7_code, 1, (some .int))
def pm_31 : px_M := (⟨"FromTheMiddle$Row", "halves", "()I"⟩, prog_6_method_8_code, 1, (some .int))
def pm_32 : px_M := (⟨"FromTheMiddle$Row", "look", "(II)V"⟩, prog_6_method_9_code, 5, none)
def pm_33 : px_M := (⟨"FromTheMiddle$Row", "ofEdges", "(ZZ)I"⟩, prog_6_method_10_code, 3, (some .int))
def pm_34 : px_M := (⟨"FromTheMiddle$Row", "isCut", "(I)Z"⟩, prog_6_method_11_code, 2, (some .boolean))
def pm_35 : px_M := (⟨"FromTheMiddle$Row", "isHalf", "(I)Z"⟩, prog_6_method_12_code, 2, (some .boolean))
def pm_36 : px_M := (⟨"FromTheMiddle$Row", "isHidden", "(III)Z"⟩, prog_6_method_13_code, 4, (some .boolean))
def pm_37 : px_M := (⟨"FromTheMiddle$Row", "behindFirstAheadOf", "(I)I"⟩, prog_6_method_14_code, 3, (some .int))
def pm_38 : px_M := (⟨"FromTheMiddle$Row", "endingNotBehind", "(I)I"⟩, prog_6_method_15_code, 2, (some .int))
def pm_39 : px_M := (⟨"FromTheMiddle$Row", "gapOfBeginnings", "(II)I"⟩, prog_6_method_16_code, 4, (some .int))
def pm_40 : px_M := (⟨"FromTheMiddle$Row", "gapOfEndings", "(II)I"⟩, prog_6_method_17_code, 4, (some .int))
def pm_41 : px_M := (⟨"FromTheMiddle$Sheet", "isMissing", "()Z"⟩, prog_7_method_2_code, 1, (some .boolean))
def pm_42 : px_M := (⟨"FromTheMiddle$Sheet", "lowestBits", "(I)I"⟩, prog_7_method_3_code, 2, (some .int))
def pm_43 : px_M := (⟨"FromTheMiddle$Voices", "speak", "(IIIII)I"⟩, prog_8_method_2_code, 8, (some .int))
def pm_44 : px_M := (⟨"FromTheMiddle$Voices", "chained", "(II)I"⟩, prog_8_method_3_code, 7, (some .int))
def pm_45 : px_M := (⟨"FromTheMiddle$Voices", "bodyOf", "(I)I"⟩, prog_8_method_4_code, 2, (some .int))
def pm_46 : px_M := (⟨"FromTheMiddle$Voices", "calledBy", "(I)I"⟩, prog_8_method_5_code, 2, (some .int))
def pm_47 : px_M := (⟨"FromTheMiddle$Voices", "handedDown", "(II)I"⟩, prog_8_method_6_code, 3, (some .int))
def pm_48 : px_M := (⟨"FromTheMiddle$Voices", "handedUp", "(II)I"⟩, prog_8_method_7_code, 3, (some .int))
def pm_49 : px_M := (⟨"FromTheMiddle", "wall", "(II)I"⟩, prog_1_method_2_code, 4, (some .int))
def pm_50 : px_M := (⟨"FromTheMiddle", "wallIs", "(I)I"⟩, prog_1_method_3_code, 2, (some .int))
def pm_51 : px_M := (⟨"FromTheMiddle", "begin", "(I)I"⟩, prog_1_method_4_code, 3, (some .int))
def pm_52 : px_M := (⟨"FromTheMiddle", "thing", "(III)I"⟩, prog_1_method_5_code, 4, (some .int))
def pm_53 : px_M := (⟨"FromTheMiddle", "thingIs", "(II)I"⟩, prog_1_method_6_code, 3, (some .int))
def pm_54 : px_M := (⟨"FromTheMiddle", "become", "(II)I"⟩, prog_1_method_7_code, 4, (some .int))
def pm_55 : px_M := (⟨"FromTheMiddle", "as", "(II)I"⟩, prog_1_method_8_code, 3, (some .int))
def pm_56 : px_M := (⟨"FromTheMiddle", "hang", "(II)I"⟩, prog_1_method_9_code, 4, (some .int))
def pm_57 : px_M := (⟨"FromTheMiddle", "feed", "(JI)I"⟩, prog_1_method_10_code, 5, (some .int))
def pm_58 : px_M := (⟨"FromTheMiddle", "text", "(I)I"⟩, prog_1_method_11_code, 3, (some .int))
def pm_59 : px_M := (⟨"FromTheMiddle", "untell", "(I)I"⟩, prog_1_method_12_code, 3, (some .int))
def pm_60 : px_M := (⟨"FromTheMiddle", "law", "(IIII)I"⟩, prog_1_method_13_code, 5, (some .int))
def pm_61 : px_M := (⟨"FromTheMiddle", "piece", "(II)I"⟩, prog_1_method_14_code, 3, (some .int))
def pm_62 : px_M := (⟨"FromTheMiddle", "rowIs", "(II)I"⟩, prog_1_method_15_code, 3, (some .int))
def pm_63 : px_M := (⟨"FromTheMiddle", "seen", "(III)I"⟩, prog_1_method_16_code, 5, (some .int))
def pm_64 : px_M := (⟨"FromTheMiddle", "buy", "(I)I"⟩, prog_1_method_17_code, 2, (some .int))
def pm_65 : px_M := (⟨"FromTheMiddle", "loose", "(I)I"⟩, prog_1_method_18_code, 3, (some .int))
def pm_66 : px_M := (⟨"FromTheMiddle", "seed", "(I)I"⟩, prog_1_method_19_code, 3, (some .int))
def pm_67 : px_M := (⟨"FromTheMiddle", "best", "(I)I"⟩, prog_1_method_20_code, 3, (some .int))
def pm_68 : px_M := (⟨"FromTheMiddle", "calm", "(I)I"⟩, prog_1_method_21_code, 6, (some .int))
def pm_69 : px_M := (⟨"FromTheMiddle", "cheat", "(I)I"⟩, prog_1_method_22_code, 5, (some .int))
def pm_70 : px_M := (⟨"FromTheMiddle", "middle", "(I)I"⟩, prog_1_method_23_code, 4, (some .int))
def pm_71 : px_M := (⟨"FromTheMiddle", "odds", "(II)I"⟩, prog_1_method_24_code, 5, (some .int))
def pm_72 : px_M := (⟨"FromTheMiddle", "fits", "(II)I"⟩, prog_1_method_25_code, 7, (some .int))
def pm_73 : px_M := (⟨"FromTheMiddle", "voice", "(III)I"⟩, prog_1_method_26_code, 5, (some .int))
def pm_74 : px_M := (⟨"FromTheMiddle", "body", "(I)I"⟩, prog_1_method_27_code, 2, (some .int))
def pm_75 : px_M := (⟨"FromTheMiddle", "sheet", "(III)I"⟩, prog_1_method_28_code, 5, (some .int))
def pm_76 : px_M := (⟨"FromTheMiddle", "put", "(III)I"⟩, prog_1_method_29_code, 5, (some .int))
def pm_77 : px_M := (⟨"FromTheMiddle", "move", "(IIIII)I"⟩, prog_1_method_30_code, 8, (some .int))
def pm_78 : px_M := (⟨"FromTheMiddle", "places", "(I)I"⟩, prog_1_method_31_code, 5, (some .int))
def pm_79 : px_M := (⟨"FromTheMiddle", "judge", "(I)I"⟩, prog_1_method_32_code, 3, (some .int))
def pm_80 : px_M := (⟨"FromTheMiddle", "image", "()I"⟩, prog_1_method_33_code, 1, (some .int))
def pm_81 : px_M := (⟨"FromTheMiddle", "restore", "()I"⟩, prog_1_method_34_code, 1, (some .int))
def pm_82 : px_M := (⟨"FromTheMiddle", "tell", "(I)I"⟩, prog_1_method_35_code, 2, (some .int))
def pm_83 : px_M := (⟨"FromTheMiddle", "check", "()I"⟩, prog_1_method_36_code, 4, (some .int))
def pm_84 : px_M := (⟨"FromTheMiddle", "count", "(I)I"⟩, prog_1_method_37_code, 2, (some .int))
def pm_85 : px_M := (⟨"FromTheMiddle", "told", "(I)I"⟩, prog_1_method_38_code, 2, (some .int))
def pm_86 : px_M := (⟨"FromTheMiddle", "error", "(I)I"⟩, prog_1_method_39_code, 2, (some .int))
def pm_87 : px_M := (⟨"FromTheMiddle", "is", "(I)I"⟩, prog_1_method_40_code, 2, (some .int))
def pm_88 : px_M := (⟨"FromTheMiddle", "isThing", "(I)Z"⟩, prog_1_method_41_code, 2, (some .boolean))
def pm_89 : px_M := (⟨"FromTheMiddle", "isRow", "(I)Z"⟩, prog_1_method_42_code, 2, (some .boolean))
def pm_90 : px_M := (⟨"FromTheMiddle", "sheetAt", "(I)LFromTheMiddle$Sheet;"⟩, prog_1_method_43_code, 2, (some (.object "FromTheMiddle$Sheet")))
def pm_91 : px_M := (⟨"FromTheMiddle", "isKindAndMark", "(I)Z"⟩, prog_1_method_44_code, 1, (some .boolean))
def pm_92 : px_M := (⟨"FromTheMiddle", "isFrom", "(I)Z"⟩, prog_1_method_45_code, 1, (some .boolean))
def pm_93 : px_M := (⟨"FromTheMiddle", "isUse", "(I)Z"⟩, prog_1_method_46_code, 1, (some .boolean))
def pm_94 : px_M := (⟨"FromTheMiddle", "isOfKind", "(II)Z"⟩, prog_1_method_47_code, 2, (some .boolean))
def pm_95 : px_M := (⟨"FromTheMiddle", "kindAbove", "(I)I"⟩, prog_1_method_48_code, 1, (some .int))
def pm_96 : px_M := (⟨"FromTheMiddle", "quotient", "(II)I"⟩, prog_1_method_49_code, 2, (some .int))
def pm_97 : px_M := (⟨"FromTheMiddle", "rest", "(II)I"⟩, prog_1_method_50_code, 2, (some .int))
def pm_98 : px_M := (⟨"FromTheMiddle", "within", "(III)I"⟩, prog_1_method_51_code, 3, (some .int))
def pm_99 : px_M := (⟨"FromTheMiddle", "commonDivisor", "(II)I"⟩, prog_1_method_52_code, 3, (some .int))
def pm_100 : px_M := (⟨"FromTheMiddle", "rowLength", "(I)I"⟩, prog_1_method_53_code, 2, (some .int))
def pm_101 : px_M := (⟨"FromTheMiddle", "firstPiece", "(II)I"⟩, prog_1_method_54_code, 4, (some .int))
def pm_102 : px_M := (⟨"FromTheMiddle", "lay", "(II)V"⟩, prog_1_method_55_code, 3, none)
def pm_103 : px_M := (⟨"FromTheMiddle", "narrowestBy", "(I)I"⟩, prog_1_method_56_code, 4, (some .int))
def pm_104 : px_M := (⟨"FromTheMiddle", "cutsBy", "(I)I"⟩, prog_1_method_57_code, 4, (some .int))
def pm_105 : px_M := (⟨"FromTheMiddle", "bestStart", "()I"⟩, prog_1_method_58_code, 7, (some .int))
def pm_106 : px_M := (⟨"FromTheMiddle", "rightFromFirst", "(LFromTheMiddle$Numbers;)I"⟩, prog_1_method_59_code, 4, (some .int))
def pm_107 : px_M := (⟨"FromTheMiddle", "pieces", "()I"⟩, prog_1_method_60_code, 3, (some .int))
def pm_108 : px_M := (⟨"FromTheMiddle", "halves", "()I"⟩, prog_1_method_61_code, 3, (some .int))
def pm_109 : px_M := (⟨"FromTheMiddle", "tilesToBuy", "()I"⟩, prog_1_method_62_code, 3, (some .int))
def pm_110 : px_M := (⟨"FromTheMiddle", "harmBy", "(I)I"⟩, prog_1_method_63_code, 5, (some .int))
def pm_111 : px_M := (⟨"FromTheMiddle", "harmOf", "(I)I"⟩, prog_1_method_64_code, 4, (some .int))
def pm_112 : px_M := (⟨"FromTheMiddle", "harms", "(IILFromTheMiddle$Row;)I"⟩, prog_1_method_65_code, 6, (some .int))
def pm_113 : px_M := (⟨"FromTheMiddle", "ruled", "(IIII)I"⟩, prog_1_method_66_code, 8, (some .int))
def pm_114 : px_M := (⟨"FromTheMiddle", "draw", "()I"⟩, prog_1_method_67_code, 1, (some .int))
def pm_115 : px_M := (⟨"FromTheMiddle", "changeByDraws", "()V"⟩, prog_1_method_68_code, 2, none)
def pm_116 : px_M := (⟨"FromTheMiddleModel", "error", "(I)I"⟩, prog_10_method_2_code, 2, (some .int))
def pm_117 : px_M := (⟨"FromTheMiddleModel", "in", "(III)Z"⟩, prog_10_method_3_code, 3, (some .boolean))
def pm_118 : px_M := (⟨"FromTheMiddleModel", "held", "(III)I"⟩, prog_10_method_4_code, 3, (some .int))
def pm_119 : px_M := (⟨"FromTheMiddleModel", "copyAll", "([I[I)V"⟩, prog_10_method_5_code, 3, none)
def pm_120 : px_M := (⟨"FromTheMiddleModel", "isThing", "(I)Z"⟩, prog_10_method_6_code, 2, (some .boolean))
def pm_121 : px_M := (⟨"FromTheMiddleModel", "isRow", "(I)Z"⟩, prog_10_method_7_code, 2, (some .boolean))
def pm_122 : px_M := (⟨"FromTheMiddleModel", "its", "(II)I"⟩, prog_10_method_8_code, 3, (some .int))
def pm_123 : px_M := (⟨"FromTheMiddleModel", "lays1", "(III)V"⟩, prog_10_method_9_code, 4, none)
def pm_124 : px_M := (⟨"FromTheMiddleModel", "change1", "(II)I"⟩, prog_10_method_10_code, 4, (some .int))
def pm_125 : px_M := (⟨"FromTheMiddleModel", "feed", "(JI)I"⟩, prog_10_method_11_code, 5, (some .int))
def pm_126 : px_M := (⟨"FromTheMiddleModel", "look", "()I"⟩, prog_10_method_12_code, 1, (some .int))
def pm_127 : px_M := (⟨"FromTheMiddleModel", "isName", "(I)Z"⟩, prog_10_method_13_code, 2, (some .boolean))
def pm_128 : px_M := (⟨"FromTheMiddleModel", "step1", "(II)V"⟩, prog_10_method_14_code, 3, none)
def pm_129 : px_M := (⟨"FromTheMiddleModel", "whole", "()Z"⟩, prog_10_method_15_code, 1, (some .boolean))
def pm_130 : px_M := (⟨"FromTheMiddleModel", "both", "()Z"⟩, prog_10_method_16_code, 1, (some .boolean))
def pm_131 : px_M := (⟨"FromTheMiddleModel", "compared", "()Z"⟩, prog_10_method_17_code, 2, (some .boolean))
def pm_132 : px_M := (⟨"FromTheMiddleModel", "sum", "()Z"⟩, prog_10_method_18_code, 2, (some .boolean))
def pm_133 : px_M := (⟨"FromTheMiddleModel", "product", "()Z"⟩, prog_10_method_19_code, 2, (some .boolean))
def pm_134 : px_M := (⟨"FromTheMiddleModel", "opens", "()Z"⟩, prog_10_method_20_code, 1, (some .boolean))
def pm_135 : px_M := (⟨"FromTheMiddleModel", "one", "()Z"⟩, prog_10_method_21_code, 4, (some .boolean))
def pm_136 : px_M := (⟨"FromTheMiddleModel", "hasText", "(I)Z"⟩, prog_10_method_22_code, 2, (some .boolean))
def pm_137 : px_M := (⟨"FromTheMiddleModel", "text", "(I)I"⟩, prog_10_method_23_code, 5, (some .int))
def pm_138 : px_M := (⟨"FromTheMiddleModel", "untell", "(I)I"⟩, prog_10_method_24_code, 3, (some .int))
def pm_139 : px_M := (⟨"FromTheMiddleModel", "joined", "(III)I"⟩, prog_10_method_25_code, 3, (some .int))
def pm_140 : px_M := (⟨"FromTheMiddleModel", "worked", "(I)I"⟩, prog_10_method_26_code, 7, (some .int))
def pm_141 : px_M := (⟨"FromTheMiddleModel", "longOf", "(I)I"⟩, prog_10_method_27_code, 3, (some .int))
def pm_142 : px_M := (⟨"FromTheMiddleModel", "firstOf", "(I)I"⟩, prog_10_method_28_code, 3, (some .int))
def pm_143 : px_M := (⟨"FromTheMiddleModel", "layRow", "(I)V"⟩, prog_10_method_29_code, 5, none)
def pm_144 : px_M := (⟨"FromTheMiddleModel", "cutsLaid", "()I"⟩, prog_10_method_30_code, 3, (some .int))
def pm_145 : px_M := (⟨"FromTheMiddleModel", "halvesLaid", "()I"⟩, prog_10_method_31_code, 3, (some .int))
def pm_146 : px_M := (⟨"FromTheMiddleModel", "narrowestLaid", "()I"⟩, prog_10_method_32_code, 3, (some .int))
def pm_147 : px_M := (⟨"FromTheMiddleModel", "ofAll", "(I)I"⟩, prog_10_method_33_code, 5, (some .int))
def pm_148 : px_M := (⟨"FromTheMiddleModel", "jointsOn", "(II)I"⟩, prog_10_method_34_code, 5, (some .int))
def pm_149 : px_M := (⟨"FromTheMiddleModel", "apart", "(II)I"⟩, prog_10_method_35_code, 2, (some .int))
def pm_150 : px_M := (⟨"FromTheMiddleModel", "gapOn", "(II)I"⟩, prog_10_method_36_code, 7, (some .int))
def pm_151 : px_M := (⟨"FromTheMiddleModel", "touchesOn", "(II)I"⟩, prog_10_method_37_code, 5, (some .int))
def pm_152 : px_M := (⟨"FromTheMiddleModel", "hidesOn", "(II)I"⟩, prog_10_method_38_code, 5, (some .int))
def pm_153 : px_M := (⟨"FromTheMiddleModel", "harmsOn", "(I)I"⟩, prog_10_method_39_code, 7, (some .int))
def pm_154 : px_M := (⟨"FromTheMiddleModel", "brokenTold", "(III)I"⟩, prog_10_method_40_code, 4, (some .int))
def pm_155 : px_M := (⟨"FromTheMiddleModel", "harmTold", "(III)I"⟩, prog_10_method_41_code, 4, (some .int))
def pm_156 : px_M := (⟨"FromTheMiddleModel", "harmOn", "(I)I"⟩, prog_10_method_42_code, 2, (some .int))
def pm_157 : px_M := (⟨"FromTheMiddleModel", "harmAll", "()I"⟩, prog_10_method_43_code, 4, (some .int))
def pm_158 : px_M := (⟨"FromTheMiddleModel", "wall", "(II)I"⟩, prog_10_method_44_code, 3, (some .int))
def pm_159 : px_M := (⟨"FromTheMiddleModel", "wallIs", "(I)I"⟩, prog_10_method_45_code, 2, (some .int))
def pm_160 : px_M := (⟨"FromTheMiddleModel", "begin", "(I)I"⟩, prog_10_method_46_code, 2, (some .int))
def pm_161 : px_M := (⟨"FromTheMiddleModel", "isKind", "(I)Z"⟩, prog_10_method_47_code, 1, (some .boolean))
def pm_162 : px_M := (⟨"FromTheMiddleModel", "thing", "(III)I"⟩, prog_10_method_48_code, 5, (some .int))
def pm_163 : px_M := (⟨"FromTheMiddleModel", "thingIs", "(II)I"⟩, prog_10_method_49_code, 3, (some .int))
def pm_164 : px_M := (⟨"FromTheMiddleModel", "become", "(II)I"⟩, prog_10_method_50_code, 3, (some .int))
def pm_165 : px_M := (⟨"FromTheMiddleModel", "as", "(II)I"⟩, prog_10_method_51_code, 4, (some .int))
def pm_166 : px_M := (⟨"FromTheMiddleModel", "hang", "(II)I"⟩, prog_10_method_52_code, 3, (some .int))
def pm_167 : px_M := (⟨"FromTheMiddleModel", "law", "(IIII)I"⟩, prog_10_method_53_code, 5, (some .int))
def pm_168 : px_M := (⟨"FromTheMiddleModel", "piece", "(II)I"⟩, prog_10_method_54_code, 3, (some .int))
def pm_169 : px_M := (⟨"FromTheMiddleModel", "rowIs", "(II)I"⟩, prog_10_method_55_code, 3, (some .int))
def pm_170 : px_M := (⟨"FromTheMiddleModel", "seen", "(III)I"⟩, prog_10_method_56_code, 6, (some .int))
def pm_171 : px_M := (⟨"FromTheMiddleModel", "tiles", "()I"⟩, prog_10_method_57_code, 4, (some .int))
def pm_172 : px_M := (⟨"FromTheMiddleModel", "buy", "(I)I"⟩, prog_10_method_58_code, 2, (some .int))
def pm_173 : px_M := (⟨"FromTheMiddleModel", "draw", "()I"⟩, prog_10_method_59_code, 1, (some .int))
def pm_174 : px_M := (⟨"FromTheMiddleModel", "loose", "(I)I"⟩, prog_10_method_60_code, 4, (some .int))
def pm_175 : px_M := (⟨"FromTheMiddleModel", "seed", "(I)I"⟩, prog_10_method_61_code, 2, (some .int))
def pm_176 : px_M := (⟨"FromTheMiddleModel", "best", "(I)I"⟩, prog_10_method_62_code, 9, (some .int))
def pm_177 : px_M := (⟨"FromTheMiddleModel", "calm", "(I)I"⟩, prog_10_method_63_code, 7, (some .int))
def pm_178 : px_M := (⟨"FromTheMiddleModel", "cheat", "(I)I"⟩, prog_10_method_64_code, 4, (some .int))
def pm_179 : px_M := (⟨"FromTheMiddleModel", "middle", "(I)I"⟩, prog_10_method_65_code, 4, (some .int))
def pm_180 : px_M := (⟨"FromTheMiddleModel", "divisor", "(II)I"⟩, prog_10_method_66_code, 5, (some .int))
def pm_181 : px_M := (⟨"FromTheMiddleModel", "odds", "(II)I"⟩, prog_10_method_67_code, 6, (some .int))
def pm_182 : px_M := (⟨"FromTheMiddleModel", "rightOf", "(I)I"⟩, prog_10_method_68_code, 3, (some .int))
def pm_183 : px_M := (⟨"FromTheMiddleModel", "fits", "(II)I"⟩, prog_10_method_69_code, 9, (some .int))
def pm_184 : px_M := (⟨"FromTheMiddleModel", "starts", "(I)V"⟩, prog_10_method_70_code, 2, none)
def pm_185 : px_M := (⟨"FromTheMiddleModel", "above", "(I)I"⟩, prog_10_method_71_code, 1, (some .int))
def pm_186 : px_M := (⟨"FromTheMiddleModel", "kindNow", "()I"⟩, prog_10_method_72_code, 1, (some .int))
def pm_187 : px_M := (⟨"FromTheMiddleModel", "mNow", "()I"⟩, prog_10_method_73_code, 1, (some .int))
def pm_188 : px_M := (⟨"FromTheMiddleModel", "dripsAs", "(II)I"⟩, prog_10_method_74_code, 3, (some .int))
def pm_189 : px_M := (⟨"FromTheMiddleModel", "scoresAs", "(II)I"⟩, prog_10_method_75_code, 3, (some .int))
def pm_190 : px_M := (⟨"FromTheMiddleModel", "snapsAs", "(II)I"⟩, prog_10_method_76_code, 3, (some .int))
def pm_191 : px_M := (⟨"FromTheMiddleModel", "partsAs", "(II)I"⟩, prog_10_method_77_code, 5, (some .int))
def pm_192 : px_M := (⟨"FromTheMiddleModel", "voice", "(III)I"⟩, prog_10_method_78_code, 6, (some .int))
def pm_193 : px_M := (⟨"FromTheMiddleModel", "body", "(I)I"⟩, prog_10_method_79_code, 2, (some .int))
def pm_194 : px_M := (⟨"FromTheMiddleModel", "isSheet", "(I)Z"⟩, prog_10_method_80_code, 1, (some .boolean))
def pm_195 : px_M := (⟨"FromTheMiddleModel", "sheet", "(III)I"⟩, prog_10_method_81_code, 5, (some .int))
def pm_196 : px_M := (⟨"FromTheMiddleModel", "put", "(III)I"⟩, prog_10_method_82_code, 5, (some .int))
def pm_197 : px_M := (⟨"FromTheMiddleModel", "move", "(IIIII)I"⟩, prog_10_method_83_code, 7, (some .int))
def pm_198 : px_M := (⟨"FromTheMiddleModel", "lacks", "(I)I"⟩, prog_10_method_84_code, 2, (some .int))
def pm_199 : px_M := (⟨"FromTheMiddleModel", "places", "(I)I"⟩, prog_10_method_85_code, 4, (some .int))
def pm_200 : px_M := (⟨"FromTheMiddleModel", "judge", "(I)I"⟩, prog_10_method_86_code, 3, (some .int))
def pm_201 : px_M := (⟨"FromTheMiddleModel", "image", "()I"⟩, prog_10_method_87_code, 1, (some .int))
def pm_202 : px_M := (⟨"FromTheMiddleModel", "restore", "()I"⟩, prog_10_method_88_code, 1, (some .int))
def pm_203 : px_M := (⟨"FromTheMiddleModel", "tell", "(I)I"⟩, prog_10_method_89_code, 2, (some .int))
def pm_204 : px_M := (⟨"FromTheMiddleModel", "check", "()I"⟩, prog_10_method_90_code, 3, (some .int))
def pm_205 : px_M := (⟨"FromTheMiddleModel", "count", "(I)I"⟩, prog_10_method_91_code, 2, (some .int))
def pm_206 : px_M := (⟨"FromTheMiddleModel", "told", "(I)I"⟩, prog_10_method_92_code, 2, (some .int))
def pm_207 : px_M := (⟨"java/lang/String", "indexOf", "(I)I"⟩, prog_13_method_79_code, 2, (some .int))
def pm_208 : px_M := (⟨"java/lang/String", "indexOf", "(II)I"⟩, prog_13_method_80_code, 3, (some .int))
def pm_209 : px_M := (⟨"java/lang/String", "isLatin1", "()Z"⟩, prog_13_method_154_code, 1, (some .boolean))
def pm_210 : px_M := (⟨"java/lang/String", "length", "()I"⟩, prog_13_method_54_code, 1, (some .int))
def pm_211 : px_M := (⟨"java/lang/String", "coder", "()B"⟩, prog_13_method_152_code, 1, (some .byte))
def pm_212 : px_M := (⟨"java/lang/StringLatin1", "indexOf", "([BIII)I"⟩, prog_14_method_22_code, 4, (some .int))
def pm_213 : px_M := (⟨"java/lang/StringLatin1", "canEncode", "(I)Z"⟩, prog_14_method_4_code, 1, (some .boolean))
def pm_214 : px_M := (⟨"java/lang/StringLatin1", "indexOfChar", "([BIII)I"⟩, prog_14_method_23_code, 6, (some .int))
def px_mm : Nat → Option px_M := px_node 107 (px_node 53 (px_node 26 (px_node 13 (px_node 6 (px_node 3 (px_node 1 (px_leaf 0 pm_0) (px_node 2 (px_leaf 1 pm_1) (px_leaf 2 pm_2))) (px_node 4 (px_leaf 3 pm_3) (px_node 5 (px_leaf 4 pm_4) (px_leaf 5 pm_5)))) (px_node 9 (px_node 7 (px_leaf 6 pm_6) (px_node 8 (px_leaf 7 pm_7) (px_leaf 8 pm_8))) (px_node 11 (px_node 10 (px_leaf 9 pm_9) (px_leaf 10 pm_10)) (px_node 12 (px_leaf 11 pm_11) (px_leaf 12 pm_12))))) (px_node 19 (px_node 16 (px_node 14 (px_leaf 13 pm_13) (px_node 15 (px_leaf 14 pm_14) (px_leaf 15 pm_15))) (px_node 17 (px_leaf 16 pm_16) (px_node 18 (px_leaf 17 pm_17) (px_leaf 18 pm_18)))) (px_node 22 (px_node 20 (px_leaf 19 pm_19) (px_node 21 (px_leaf 20 pm_20) (px_leaf 21 pm_21))) (px_node 24 (px_node 23 (px_leaf 22 pm_22) (px_leaf 23 pm_23)) (px_node 25 (px_leaf 24 pm_24) (px_leaf 25 pm_25)))))) (px_node 39 (px_node 32 (px_node 29 (px_node 27 (px_leaf 26 pm_26) (px_node 28 (px_leaf 27 pm_27) (px_leaf 28 pm_28))) (px_node 30 (px_leaf 29 pm_29) (px_node 31 (px_leaf 30 pm_30) (px_leaf 31 pm_31)))) (px_node 35 (px_node 33 (px_leaf 32 pm_32) (px_node 34 (px_leaf 33 pm_33) (px_leaf 34 pm_34))) (px_node 37 (px_node 36 (px_leaf 35 pm_35) (px_leaf 36 pm_36)) (px_node 38 (px_leaf 37 pm_37) (px_leaf 38 pm_38))))) (px_node 46 (px_node 42 (px_node 40 (px_leaf 39 pm_39) (px_node 41 (px_leaf 40 pm_40) (px_leaf 41 pm_41))) (px_node 44 (px_node 43 (px_leaf 42 pm_42) (px_leaf 43 pm_43)) (px_node 45 (px_leaf 44 pm_44) (px_leaf 45 pm_45)))) (px_node 49 (px_node 47 (px_leaf 46 pm_46) (px_node 48 (px_leaf 47 pm_47) (px_leaf 48 pm_48))) (px_node 51 (px_node 50 (px_leaf 49 pm_49) (px_leaf 50 pm_50)) (px_node 52 (px_leaf 51 pm_51) (px_leaf 52 pm_52))))))) (px_node 80 (px_node 66 (px_node 59 (px_node 56 (px_node 54 (px_leaf 53 pm_53) (px_node 55 (px_leaf 54 pm_54) (px_leaf 55 pm_55))) (px_node 57 (px_leaf 56 pm_56) (px_node 58 (px_leaf 57 pm_57) (px_leaf 58 pm_58)))) (px_node 62 (px_node 60 (px_leaf 59 pm_59) (px_node 61 (px_leaf 60 pm_60) (px_leaf 61 pm_61))) (px_node 64 (px_node 63 (px_leaf 62 pm_62) (px_leaf 63 pm_63)) (px_node 65 (px_leaf 64 pm_64) (px_leaf 65 pm_65))))) (px_node 73 (px_node 69 (px_node 67 (px_leaf 66 pm_66) (px_node 68 (px_leaf 67 pm_67) (px_leaf 68 pm_68))) (px_node 71 (px_node 70 (px_leaf 69 pm_69) (px_leaf 70 pm_70)) (px_node 72 (px_leaf 71 pm_71) (px_leaf 72 pm_72)))) (px_node 76 (px_node 74 (px_leaf 73 pm_73) (px_node 75 (px_leaf 74 pm_74) (px_leaf 75 pm_75))) (px_node 78 (px_node 77 (px_leaf 76 pm_76) (px_leaf 77 pm_77)) (px_node 79 (px_leaf 78 pm_78) (px_leaf 79 pm_79)))))) (px_node 93 (px_node 86 (px_node 83 (px_node 81 (px_leaf 80 pm_80) (px_node 82 (px_leaf 81 pm_81) (px_leaf 82 pm_82))) (px_node 84 (px_leaf 83 pm_83) (px_node 85 (px_leaf 84 pm_84) (px_leaf 85 pm_85)))) (px_node 89 (px_node 87 (px_leaf 86 pm_86) (px_node 88 (px_leaf 87 pm_87) (px_leaf 88 pm_88))) (px_node 91 (px_node 90 (px_leaf 89 pm_89) (px_leaf 90 pm_90)) (px_node 92 (px_leaf 91 pm_91) (px_leaf 92 pm_92))))) (px_node 100 (px_node 96 (px_node 94 (px_leaf 93 pm_93) (px_node 95 (px_leaf 94 pm_94) (px_leaf 95 pm_95))) (px_node 98 (px_node 97 (px_leaf 96 pm_96) (px_leaf 97 pm_97)) (px_node 99 (px_leaf 98 pm_98) (px_leaf 99 pm_99)))) (px_node 103 (px_node 101 (px_leaf 100 pm_100) (px_node 102 (px_leaf 101 pm_101) (px_leaf 102 pm_102))) (px_node 105 (px_node 104 (px_leaf 103 pm_103) (px_leaf 104 pm_104)) (px_node 106 (px_leaf 105 pm_105) (px_leaf 106 pm_106)))))))) (px_node 161 (px_node 134 (px_node 120 (px_node 113 (px_node 110 (px_node 108 (px_leaf 107 pm_107) (px_node 109 (px_leaf 108 pm_108) (px_leaf 109 pm_109))) (px_node 111 (px_leaf 110 pm_110) (px_node 112 (px_leaf 111 pm_111) (px_leaf 112 pm_112)))) (px_node 116 (px_node 114 (px_leaf 113 pm_113) (px_node 115 (px_leaf 114 pm_114) (px_leaf 115 pm_115))) (px_node 118 (px_node 117 (px_leaf 116 pm_116) (px_leaf 117 pm_117)) (px_node 119 (px_leaf 118 pm_118) (px_leaf 119 pm_119))))) (px_node 127 (px_node 123 (px_node 121 (px_leaf 120 pm_120) (px_node 122 (px_leaf 121 pm_121) (px_leaf 122 pm_122))) (px_node 125 (px_node 124 (px_leaf 123 pm_123) (px_leaf 124 pm_124)) (px_node 126 (px_leaf 125 pm_125) (px_leaf 126 pm_126)))) (px_node 130 (px_node 128 (px_leaf 127 pm_127) (px_node 129 (px_leaf 128 pm_128) (px_leaf 129 pm_129))) (px_node 132 (px_node 131 (px_leaf 130 pm_130) (px_leaf 131 pm_131)) (px_node 133 (px_leaf 132 pm_132) (px_leaf 133 pm_133)))))) (px_node 147 (px_node 140 (px_node 137 (px_node 135 (px_leaf 134 pm_134) (px_node 136 (px_leaf 135 pm_135) (px_leaf 136 pm_136))) (px_node 138 (px_leaf 137 pm_137) (px_node 139 (px_leaf 138 pm_138) (px_leaf 139 pm_139)))) (px_node 143 (px_node 141 (px_leaf 140 pm_140) (px_node 142 (px_leaf 141 pm_141) (px_leaf 142 pm_142))) (px_node 145 (px_node 144 (px_leaf 143 pm_143) (px_leaf 144 pm_144)) (px_node 146 (px_leaf 145 pm_145) (px_leaf 146 pm_146))))) (px_node 154 (px_node 150 (px_node 148 (px_leaf 147 pm_147) (px_node 149 (px_leaf 148 pm_148) (px_leaf 149 pm_149))) (px_node 152 (px_node 151 (px_leaf 150 pm_150) (px_leaf 151 pm_151)) (px_node 153 (px_leaf 152 pm_152) (px_leaf 153 pm_153)))) (px_node 157 (px_node 155 (px_leaf 154 pm_154) (px_node 156 (px_leaf 155 pm_155) (px_leaf 156 pm_156))) (px_node 159 (px_node 158 (px_leaf 157 pm_157) (px_leaf 158 pm_158)) (px_node 160 (px_leaf 159 pm_159) (px_leaf 160 pm_160))))))) (px_node 188 (px_node 174 (px_node 167 (px_node 164 (px_node 162 (px_leaf 161 pm_161) (px_node 163 (px_leaf 162 pm_162) (px_leaf 163 pm_163))) (px_node 165 (px_leaf 164 pm_164) (px_node 166 (px_leaf 165 pm_165) (px_leaf 166 pm_166)))) (px_node 170 (px_node 168 (px_leaf 167 pm_167) (px_node 169 (px_leaf 168 pm_168) (px_leaf 169 pm_169))) (px_node 172 (px_node 171 (px_leaf 170 pm_170) (px_leaf 171 pm_171)) (px_node 173 (px_leaf 172 pm_172) (px_leaf 173 pm_173))))) (px_node 181 (px_node 177 (px_node 175 (px_leaf 174 pm_174) (px_node 176 (px_leaf 175 pm_175) (px_leaf 176 pm_176))) (px_node 179 (px_node 178 (px_leaf 177 pm_177) (px_leaf 178 pm_178)) (px_node 180 (px_leaf 179 pm_179) (px_leaf 180 pm_180)))) (px_node 184 (px_node 182 (px_leaf 181 pm_181) (px_node 183 (px_leaf 182 pm_182) (px_leaf 183 pm_183))) (px_node 186 (px_node 185 (px_leaf 184 pm_184) (px_leaf 185 pm_185)) (px_node 187 (px_leaf 186 pm_186) (px_leaf 187 pm_187)))))) (px_node 201 (px_node 194 (px_node 191 (px_node 189 (px_leaf 188 pm_188) (px_node 190 (px_leaf 189 pm_189) (px_leaf 190 pm_190))) (px_node 192 (px_leaf 191 pm_191) (px_node 193 (px_leaf 192 pm_192) (px_leaf 193 pm_193)))) (px_node 197 (px_node 195 (px_leaf 194 pm_194) (px_node 196 (px_leaf 195 pm_195) (px_leaf 196 pm_196))) (px_node 199 (px_node 198 (px_leaf 197 pm_197) (px_leaf 198 pm_198)) (px_node 200 (px_leaf 199 pm_199) (px_leaf 200 pm_200))))) (px_node 208 (px_node 204 (px_node 202 (px_leaf 201 pm_201) (px_node 203 (px_leaf 202 pm_202) (px_leaf 203 pm_203))) (px_node 206 (px_node 205 (px_leaf 204 pm_204) (px_leaf 205 pm_205)) (px_node 207 (px_leaf 206 pm_206) (px_leaf 207 pm_207)))) (px_node 211 (px_node 209 (px_leaf 208 pm_208) (px_node 210 (px_leaf 209 pm_209) (px_leaf 210 pm_210))) (px_node 213 (px_node 212 (px_leaf 211 pm_211) (px_leaf 212 pm_212)) (px_node 214 (px_leaf 213 pm_213) (px_leaf 214 pm_214))))))))
theorem pm_0_j : px_mm 0 = some pm_0 := rfl
theorem lk_0 : px_lk1 pm_0 1 := ⟨wq_550, ⟨by decide +kernel, by decide +kernel, by decide +kernel⟩, by decide⟩
theorem pm_1_j : px_mm 1 = some pm_1 := rfl
theorem lk_1 : px_lk1 pm_1 1 := ⟨wq_871, ⟨by decide +kernel, by decide +kernel, by decide +kernel⟩, by decide⟩
theorem pm_2_j : px_mm 2 = some pm_2 := rfl
theorem lk_2 : px_lk1 pm_2 0 := ⟨wq_379, ⟨by decide +kernel, by decide +kernel, by decide +kernel⟩, by decide⟩
theorem pm_3_j : px_mm 3 = some pm_3 := rfl
theorem lk_3 : px_lk1 pm_3 0 := ⟨wq_374, ⟨by decide +kernel, by decide +kernel, by decide +kernel⟩, by decide⟩
theorem pm_4_j : px_mm 4 = some pm_4 := rfl
theorem lk_4 : px_lk1 pm_4 1 := ⟨wq_391, ⟨by decide +kernel, by decide +kernel, by decide +kernel⟩, by decide⟩
theorem pm_5_j : px_mm 5 = some pm_5 := rfl
theorem lk_5 : px_lk1 pm_5 2 := ⟨wq_563, ⟨by decide +kernel, by decide +kernel, by decide +kernel⟩, by decide⟩
theorem pm_6_j : px_mm 6 = some pm_6 := rfl
theorem lk_6 : px_lk1 pm_6 1 := ⟨wq_343, ⟨by decide +kernel, by decide +kernel, by decide +kernel⟩, by decide⟩
theorem pm_7_j : px_mm 7 = some pm_7 := rfl
theorem lk_7 : px_lk1 pm_7 2 := ⟨wq_347, ⟨by decide +kernel, by decide +kernel, by decide +kernel⟩, by decide⟩
theorem pm_8_j : px_mm 8 = some pm_8 := rfl
theorem lk_8 : px_lk1 pm_8 1 := ⟨wq_135, ⟨by decide +kernel, by decide +kernel, by decide +kernel⟩, by decide⟩
theorem pm_9_j : px_mm 9 = some pm_9 := rfl
theorem lk_9 : px_lk1 pm_9 0 := ⟨wq_534, ⟨by decide +kernel, by decide +kernel, by decide +kernel⟩, by decide⟩
theorem pm_10_j : px_mm 10 = some pm_10 := rfl
theorem lk_10 : px_lk1 pm_10 0 := ⟨wq_430, ⟨by decide +kernel, by decide +kernel, by decide +kernel⟩, by decide⟩
theorem pm_11_j : px_mm 11 = some pm_11 := rfl
theorem lk_11 : px_lk1 pm_11 1 := ⟨wq_296, ⟨by decide +kernel, by decide +kernel, by decide +kernel⟩, by decide⟩
theorem pm_12_j : px_mm 12 = some pm_12 := rfl
theorem lk_12 : px_lk1 pm_12 4 := ⟨wq_559, ⟨by decide +kernel, by decide +kernel, by decide +kernel⟩, by decide⟩
theorem pm_13_j : px_mm 13 = some pm_13 := rfl
theorem lk_13 : px_lk1 pm_13 1 := ⟨wq_554, ⟨by decide +kernel, by decide +kernel, by decide +kernel⟩, by decide⟩
theorem pm_14_j : px_mm 14 = some pm_14 := rfl
theorem lk_14 : px_lk1 pm_14 2 := ⟨wq_426, ⟨by decide +kernel, by decide +kernel, by decide +kernel⟩, by decide⟩
theorem pm_15_j : px_mm 15 = some pm_15 := rfl
theorem lk_15 : px_lk1 pm_15 2 := ⟨wq_436, ⟨by decide +kernel, by decide +kernel, by decide +kernel⟩, by decide⟩
theorem pm_16_j : px_mm 16 = some pm_16 := rfl
theorem lk_16 : px_lk1 pm_16 1 := ⟨wq_526, ⟨by decide +kernel, by decide +kernel, by decide +kernel⟩, by decide⟩
theorem pm_17_j : px_mm 17 = some pm_17 := rfl
theorem lk_17 : px_lk1 pm_17 1 := ⟨wq_530, ⟨by decide +kernel, by decide +kernel, by decide +kernel⟩, by decide⟩
theorem pm_18_j : px_mm 18 = some pm_18 := rfl
theorem lk_18 : px_lk1 pm_18 0 := ⟨wq_538, ⟨by decide +kernel, by decide +kernel, by decide +kernel⟩, by decide⟩
theorem pm_19_j : px_mm 19 = some pm_19 := rfl
theorem lk_19 : px_lk1 pm_19 1 := ⟨wq_542, ⟨by decide +kernel, by decide +kernel, by decide +kernel⟩, by decide⟩
theorem pm_20_j : px_mm 20 = some pm_20 := rfl
theorem lk_20 : px_lk1 pm_20 1 := ⟨wq_440, ⟨by decide +kernel, by decide +kernel, by decide +kernel⟩, by decide⟩
theorem pm_21_j : px_mm 21 = some pm_21 := rfl
theorem lk_21 : px_lk1 pm_21 1 := ⟨wq_545, ⟨by decide +kernel, by decide +kernel, by decide +kernel⟩, by decide⟩
theorem pm_22_j : px_mm 22 = some pm_22 := rfl
theorem lk_22 : px_lk1 pm_22 4 := ⟨wq_583, ⟨by decide +kernel, by decide +kernel, by decide +kernel⟩, by decide⟩
theorem pm_23_j : px_mm 23 = some pm_23 := rfl
theorem lk_23 : px_lk1 pm_23 1 := ⟨wq_595, ⟨by decide +kernel, by decide +kernel, by decide +kernel⟩, by decide⟩
theorem pm_24_j : px_mm 24 = some pm_24 := rfl
theorem lk_24 : px_lk1 pm_24 1 := ⟨wq_591, ⟨by decide +kernel, by decide +kernel, by decide +kernel⟩, by decide⟩
theorem pm_25_j : px_mm 25 = some pm_25 := rfl
theorem lk_25 : px_lk1 pm_25 4 := ⟨wq_630, ⟨by decide +kernel, by decide +kernel, by decide +kernel⟩, by decide⟩
theorem pm_26_j : px_mm 26 = some pm_26 := rfl
theorem lk_26 : px_lk1 pm_26 1 := ⟨wq_648, ⟨by decide +kernel, by decide +kernel, by decide +kernel⟩, by decide⟩
theorem pm_27_j : px_mm 27 = some pm_27 := rfl
theorem lk_27 : px_lk1 pm_27 1 := ⟨wq_643, ⟨by decide +kernel, by decide +kernel, by decide +kernel⟩, by decide⟩
theorem pm_28_j : px_mm 28 = some pm_28 := rfl
theorem lk_28 : px_lk1 pm_28 1 := ⟨wq_639, ⟨by decide +kernel, by decide +kernel, by decide +kernel⟩, by decide⟩
theorem pm_29_j : px_mm 29 = some pm_29 := rfl
theorem lk_29 : px_lk1 pm_29 0 := ⟨wq_669, ⟨by decide +kernel, by decide +kernel, by decide +kernel⟩, by decide⟩
theorem pm_30_j : px_mm 30 = some pm_30 := rfl
theorem lk_30 : px_lk1 pm_30 0 := ⟨wq_656, ⟨by decide +kernel, by decide +kernel, by decide +kernel⟩, by decide⟩
theorem pm_31_j : px_mm 31 = some pm_31 := rfl
theorem lk_31 : px_lk1 pm_31 0 := ⟨wq_717, ⟨by decide +kernel, by decide +kernel, by decide +kernel⟩, by decide⟩
theorem pm_32_j : px_mm 32 = some pm_32 := rfl
theorem lk_32 : px_lk1 pm_32 2 := ⟨wq_681, ⟨by decide +kernel, by decide +kernel, by decide +kernel⟩, by decide⟩
theorem pm_33_j : px_mm 33 = some pm_33 := rfl
theorem lk_33 : px_lk1 pm_33 2 := ⟨wq_665, ⟨by decide +kernel, by decide +kernel, by decide +kernel⟩, by decide⟩
theorem pm_34_j : px_mm 34 = some pm_34 := rfl
theorem lk_34 : px_lk1 pm_34 1 := ⟨wq_661, ⟨by decide +kernel, by decide +kernel, by decide +kernel⟩, by decide⟩
theorem pm_35_j : px_mm 35 = some pm_35 := rfl
theorem lk_35 : px_lk1 pm_35 1 := ⟨wq_721, ⟨by decide +kernel, by decide +kernel, by decide +kernel⟩, by decide⟩
theorem pm_36_j : px_mm 36 = some pm_36 := rfl
theorem lk_36 : px_lk1 pm_36 3 := ⟨wq_689, ⟨by decide +kernel, by decide +kernel, by decide +kernel⟩, by decide⟩
theorem pm_37_j : px_mm 37 = some pm_37 := rfl
theorem lk_37 : px_lk1 pm_37 1 := ⟨wq_634, ⟨by decide +kernel, by decide +kernel, by decide +kernel⟩, by decide⟩
theorem pm_38_j : px_mm 38 = some pm_38 := rfl
theorem lk_38 : px_lk1 pm_38 1 := ⟨wq_685, ⟨by decide +kernel, by decide +kernel, by decide +kernel⟩, by decide⟩
theorem pm_39_j : px_mm 39 = some pm_39 := rfl
theorem lk_39 : px_lk1 pm_39 2 := ⟨wq_693, ⟨by decide +kernel, by decide +kernel, by decide +kernel⟩, by decide⟩
theorem pm_40_j : px_mm 40 = some pm_40 := rfl
theorem lk_40 : px_lk1 pm_40 2 := ⟨wq_697, ⟨by decide +kernel, by decide +kernel, by decide +kernel⟩, by decide⟩
theorem pm_41_j : px_mm 41 = some pm_41 := rfl
theorem lk_41 : px_lk1 pm_41 0 := ⟨wq_795, ⟨by decide +kernel, by decide +kernel, by decide +kernel⟩, by decide⟩
theorem pm_42_j : px_mm 42 = some pm_42 := rfl
theorem lk_42 : px_lk1 pm_42 1 := ⟨wq_849, ⟨by decide +kernel, by decide +kernel, by decide +kernel⟩, by decide⟩
theorem pm_43_j : px_mm 43 = some pm_43 := rfl
theorem lk_43 : px_lk1 pm_43 5 := ⟨wq_807, ⟨by decide +kernel, by decide +kernel, by decide +kernel⟩, by decide⟩
theorem pm_44_j : px_mm 44 = some pm_44 := rfl
theorem lk_44 : px_lk1 pm_44 2 := ⟨wq_817, ⟨by decide +kernel, by decide +kernel, by decide +kernel⟩, by decide⟩
theorem pm_45_j : px_mm 45 = some pm_45 := rfl
theorem lk_45 : px_lk1 pm_45 1 := ⟨wq_812, ⟨by decide +kernel, by decide +kernel, by decide +kernel⟩, by decide⟩
theorem pm_46_j : px_mm 46 = some pm_46 := rfl
theorem lk_46 : px_lk1 pm_46 1 := ⟨wq_828, ⟨by decide +kernel, by decide +kernel, by decide +kernel⟩, by decide⟩
theorem pm_47_j : px_mm 47 = some pm_47 := rfl
theorem lk_47 : px_lk1 pm_47 2 := ⟨wq_823, ⟨by decide +kernel, by decide +kernel, by decide +kernel⟩, by decide⟩
theorem pm_48_j : px_mm 48 = some pm_48 := rfl
theorem lk_48 : px_lk1 pm_48 2 := ⟨wq_833, ⟨by decide +kernel, by decide +kernel, by decide +kernel⟩, by decide⟩
theorem pm_49_j : px_mm 49 = some pm_49 := rfl
theorem lk_49 : px_lk1 pm_49 2 := ⟨wq_331, ⟨by decide +kernel, by decide +kernel, by decide +kernel⟩, by decide⟩
theorem pm_50_j : px_mm 50 = some pm_50 := rfl
theorem lk_50 : px_lk1 pm_50 1 := ⟨wq_356, ⟨by decide +kernel, by decide +kernel, by decide +kernel⟩, by decide⟩
theorem pm_51_j : px_mm 51 = some pm_51 := rfl
theorem lk_51 : px_lk1 pm_51 1 := ⟨wq_360, ⟨by decide +kernel, by decide +kernel, by decide +kernel⟩, by decide⟩
theorem pm_52_j : px_mm 52 = some pm_52 := rfl
theorem lk_52 : px_lk1 pm_52 3 := ⟨wq_364, ⟨by decide +kernel, by decide +kernel, by decide +kernel⟩, by decide⟩
theorem pm_53_j : px_mm 53 = some pm_53 := rfl
theorem lk_53 : px_lk1 pm_53 2 := ⟨wq_383, ⟨by decide +kernel, by decide +kernel, by decide +kernel⟩, by decide⟩
theorem pm_54_j : px_mm 54 = some pm_54 := rfl
theorem lk_54 : px_lk1 pm_54 2 := ⟨wq_395, ⟨by decide +kernel, by decide +kernel, by decide +kernel⟩, by decide⟩
theorem pm_55_j : px_mm 55 = some pm_55 := rfl
theorem lk_55 : px_lk1 pm_55 2 := ⟨wq_399, ⟨by decide +kernel, by decide +kernel, by decide +kernel⟩, by decide⟩
theorem pm_56_j : px_mm 56 = some pm_56 := rfl
theorem lk_56 : px_lk1 pm_56 2 := ⟨wq_409, ⟨by decide +kernel, by decide +kernel, by decide +kernel⟩, by decide⟩
theorem pm_57_j : px_mm 57 = some pm_57 := rfl
theorem lk_57 : px_lk1 pm_57 2 := ⟨wq_413, ⟨by decide +kernel, by decide +kernel, by decide +kernel⟩, by decide⟩
theorem pm_58_j : px_mm 58 = some pm_58 := rfl
theorem lk_58 : px_lk1 pm_58 1 := ⟨wq_417, ⟨by decide +kernel, by decide +kernel, by decide +kernel⟩, by decide⟩
theorem pm_59_j : px_mm 59 = some pm_59 := rfl
theorem lk_59 : px_lk1 pm_59 1 := ⟨wq_571, ⟨by decide +kernel, by decide +kernel, by decide +kernel⟩, by decide⟩
theorem pm_60_j : px_mm 60 = some pm_60 := rfl
theorem lk_60 : px_lk1 pm_60 4 := ⟨wq_575, ⟨by decide +kernel, by decide +kernel, by decide +kernel⟩, by decide⟩
theorem pm_61_j : px_mm 61 = some pm_61 := rfl
theorem lk_61 : px_lk1 pm_61 2 := ⟨wq_610, ⟨by decide +kernel, by decide +kernel, by decide +kernel⟩, by decide⟩
theorem pm_62_j : px_mm 62 = some pm_62 := rfl
theorem lk_62 : px_lk1 pm_62 2 := ⟨wq_652, ⟨by decide +kernel, by decide +kernel, by decide +kernel⟩, by decide⟩
theorem pm_63_j : px_mm 63 = some pm_63 := rfl
theorem lk_63 : px_lk1 pm_63 3 := ⟨wq_673, ⟨by decide +kernel, by decide +kernel, by decide +kernel⟩, by decide⟩
theorem pm_64_j : px_mm 64 = some pm_64 := rfl
theorem lk_64 : px_lk1 pm_64 1 := ⟨wq_705, ⟨by decide +kernel, by decide +kernel, by decide +kernel⟩, by decide⟩
theorem pm_65_j : px_mm 65 = some pm_65 := rfl
theorem lk_65 : px_lk1 pm_65 1 := ⟨wq_742, ⟨by decide +kernel, by decide +kernel, by decide +kernel⟩, by decide⟩
theorem pm_66_j : px_mm 66 = some pm_66 := rfl
theorem lk_66 : px_lk1 pm_66 1 := ⟨wq_756, ⟨by decide +kernel, by decide +kernel, by decide +kernel⟩, by decide⟩
theorem pm_67_j : px_mm 67 = some pm_67 := rfl
theorem lk_67 : px_lk1 pm_67 1 := ⟨wq_760, ⟨by decide +kernel, by decide +kernel, by decide +kernel⟩, by decide⟩
theorem pm_68_j : px_mm 68 = some pm_68 := rfl
theorem lk_68 : px_lk1 pm_68 1 := ⟨wq_768, ⟨by decide +kernel, by decide +kernel, by decide +kernel⟩, by decide⟩
theorem pm_69_j : px_mm 69 = some pm_69 := rfl
theorem lk_69 : px_lk1 pm_69 1 := ⟨wq_772, ⟨by decide +kernel, by decide +kernel, by decide +kernel⟩, by decide⟩
theorem pm_70_j : px_mm 70 = some pm_70 := rfl
theorem lk_70 : px_lk1 pm_70 1 := ⟨wq_776, ⟨by decide +kernel, by decide +kernel, by decide +kernel⟩, by decide⟩
theorem pm_71_j : px_mm 71 = some pm_71 := rfl
theorem lk_71 : px_lk1 pm_71 2 := ⟨wq_780, ⟨by decide +kernel, by decide +kernel, by decide +kernel⟩, by decide⟩
theorem pm_72_j : px_mm 72 = some pm_72 := rfl
theorem lk_72 : px_lk1 pm_72 2 := ⟨wq_787, ⟨by decide +kernel, by decide +kernel, by decide +kernel⟩, by decide⟩
theorem pm_73_j : px_mm 73 = some pm_73 := rfl
theorem lk_73 : px_lk1 pm_73 3 := ⟨wq_803, ⟨by decide +kernel, by decide +kernel, by decide +kernel⟩, by decide⟩
theorem pm_74_j : px_mm 74 = some pm_74 := rfl
theorem lk_74 : px_lk1 pm_74 1 := ⟨wq_837, ⟨by decide +kernel, by decide +kernel, by decide +kernel⟩, by decide⟩
theorem pm_75_j : px_mm 75 = some pm_75 := rfl
theorem lk_75 : px_lk1 pm_75 3 := ⟨wq_841, ⟨by decide +kernel, by decide +kernel, by decide +kernel⟩, by decide⟩
theorem pm_76_j : px_mm 76 = some pm_76 := rfl
theorem lk_76 : px_lk1 pm_76 3 := ⟨wq_845, ⟨by decide +kernel, by decide +kernel, by decide +kernel⟩, by decide⟩
theorem pm_77_j : px_mm 77 = some pm_77 := rfl
theorem lk_77 : px_lk1 pm_77 5 := ⟨wq_853, ⟨by decide +kernel, by decide +kernel, by decide +kernel⟩, by decide⟩
theorem pm_78_j : px_mm 78 = some pm_78 := rfl
theorem lk_78 : px_lk1 pm_78 1 := ⟨wq_859, ⟨by decide +kernel, by decide +kernel, by decide +kernel⟩, by decide⟩
theorem pm_79_j : px_mm 79 = some pm_79 := rfl
theorem lk_79 : px_lk1 pm_79 1 := ⟨wq_863, ⟨by decide +kernel, by decide +kernel, by decide +kernel⟩, by decide⟩
theorem pm_80_j : px_mm 80 = some pm_80 := rfl
theorem lk_80 : px_lk1 pm_80 0 := ⟨wq_867, ⟨by decide +kernel, by decide +kernel, by decide +kernel⟩, by decide⟩
theorem pm_81_j : px_mm 81 = some pm_81 := rfl
theorem lk_81 : px_lk1 pm_81 0 := ⟨wq_876, ⟨by decide +kernel, by decide +kernel, by decide +kernel⟩, by decide⟩
theorem pm_82_j : px_mm 82 = some pm_82 := rfl
theorem lk_82 : px_lk1 pm_82 1 := ⟨wq_880, ⟨by decide +kernel, by decide +kernel, by decide +kernel⟩, by decide⟩
theorem pm_83_j : px_mm 83 = some pm_83 := rfl
theorem lk_83 : px_lk1 pm_83 0 := ⟨wq_884, ⟨by decide +kernel, by decide +kernel, by decide +kernel⟩, by decide⟩
theorem pm_84_j : px_mm 84 = some pm_84 := rfl
theorem lk_84 : px_lk1 pm_84 1 := ⟨wq_888, ⟨by decide +kernel, by decide +kernel, by decide +kernel⟩, by decide⟩
theorem pm_85_j : px_mm 85 = some pm_85 := rfl
theorem lk_85 : px_lk1 pm_85 1 := ⟨wq_892, ⟨by decide +kernel, by decide +kernel, by decide +kernel⟩, by decide⟩
theorem pm_86_j : px_mm 86 = some pm_86 := rfl
theorem lk_86 : px_lk1 pm_86 1 := ⟨wq_339, ⟨by decide +kernel, by decide +kernel, by decide +kernel⟩, by decide⟩
theorem pm_87_j : px_mm 87 = some pm_87 := rfl
theorem lk_87 : px_lk1 pm_87 1 := ⟨wq_352, ⟨by decide +kernel, by decide +kernel, by decide +kernel⟩, by decide⟩
theorem pm_88_j : px_mm 88 = some pm_88 := rfl
theorem lk_88 : px_lk1 pm_88 1 := ⟨wq_387, ⟨by decide +kernel, by decide +kernel, by decide +kernel⟩, by decide⟩
theorem pm_89_j : px_mm 89 = some pm_89 := rfl
theorem lk_89 : px_lk1 pm_89 1 := ⟨wq_614, ⟨by decide +kernel, by decide +kernel, by decide +kernel⟩, by decide⟩
theorem pm_90_j : px_mm 90 = some pm_90 := rfl
theorem lk_90 : px_lk1 pm_90 1 := ⟨wq_791, ⟨by decide +kernel, by decide +kernel, by decide +kernel⟩, by decide⟩
theorem pm_91_j : px_mm 91 = some pm_91 := rfl
theorem lk_91 : px_lk1 pm_91 1 := ⟨wq_367, ⟨by decide +kernel, by decide +kernel, by decide +kernel⟩, by decide⟩
theorem pm_92_j : px_mm 92 = some pm_92 := rfl
theorem lk_92 : px_lk1 pm_92 1 := ⟨wq_370, ⟨by decide +kernel, by decide +kernel, by decide +kernel⟩, by decide⟩
theorem pm_93_j : px_mm 93 = some pm_93 := rfl
theorem lk_93 : px_lk1 pm_93 1 := ⟨wq_420, ⟨by decide +kernel, by decide +kernel, by decide +kernel⟩, by decide⟩
theorem pm_94_j : px_mm 94 = some pm_94 := rfl
theorem lk_94 : px_lk1 pm_94 2 := ⟨wq_402, ⟨by decide +kernel, by decide +kernel, by decide +kernel⟩, by decide⟩
theorem pm_95_j : px_mm 95 = some pm_95 := rfl
theorem lk_95 : px_lk1 pm_95 1 := ⟨wq_405, ⟨by decide +kernel, by decide +kernel, by decide +kernel⟩, by decide⟩
theorem pm_96_j : px_mm 96 = some pm_96 := rfl
theorem lk_96 : px_lk1 pm_96 2 := ⟨wq_598, ⟨by decide +kernel, by decide +kernel, by decide +kernel⟩, by decide⟩
theorem pm_97_j : px_mm 97 = some pm_97 := rfl
theorem lk_97 : px_lk1 pm_97 2 := ⟨wq_601, ⟨by decide +kernel, by decide +kernel, by decide +kernel⟩, by decide⟩
theorem pm_98_j : px_mm 98 = some pm_98 := rfl
theorem lk_98 : px_lk1 pm_98 3 := ⟨wq_604, ⟨by decide +kernel, by decide +kernel, by decide +kernel⟩, by decide⟩
theorem pm_99_j : px_mm 99 = some pm_99 := rfl
theorem lk_99 : px_lk1 pm_99 2 := ⟨wq_783, ⟨by decide +kernel, by decide +kernel, by decide +kernel⟩, by decide⟩
theorem pm_100_j : px_mm 100 = some pm_100 := rfl
theorem lk_100 : px_lk1 pm_100 1 := ⟨wq_626, ⟨by decide +kernel, by decide +kernel, by decide +kernel⟩, by decide⟩
theorem pm_101_j : px_mm 101 = some pm_101 := rfl
theorem lk_101 : px_lk1 pm_101 2 := ⟨wq_622, ⟨by decide +kernel, by decide +kernel, by decide +kernel⟩, by decide⟩
theorem pm_102_j : px_mm 102 = some pm_102 := rfl
theorem lk_102 : px_lk1 pm_102 2 := ⟨wq_618, ⟨by decide +kernel, by decide +kernel, by decide +kernel⟩, by decide⟩
theorem pm_103_j : px_mm 103 = some pm_103 := rfl
theorem lk_103 : px_lk1 pm_103 1 := ⟨wq_734, ⟨by decide +kernel, by decide +kernel, by decide +kernel⟩, by decide⟩
theorem pm_104_j : px_mm 104 = some pm_104 := rfl
theorem lk_104 : px_lk1 pm_104 1 := ⟨wq_729, ⟨by decide +kernel, by decide +kernel, by decide +kernel⟩, by decide⟩
theorem pm_105_j : px_mm 105 = some pm_105 := rfl
theorem lk_105 : px_lk1 pm_105 0 := ⟨wq_764, ⟨by decide +kernel, by decide +kernel, by decide +kernel⟩, by decide⟩
theorem pm_106_j : px_mm 106 = some pm_106 := rfl
theorem lk_106 : px_lk1 pm_106 1 := ⟨wq_799, ⟨by decide +kernel, by decide +kernel, by decide +kernel⟩, by decide⟩
theorem pm_107_j : px_mm 107 = some pm_107 := rfl
theorem lk_107 : px_lk1 pm_107 0 := ⟨wq_725, ⟨by decide +kernel, by decide +kernel, by decide +kernel⟩, by decide⟩
theorem pm_108_j : px_mm 108 = some pm_108 := rfl
theorem lk_108 : px_lk1 pm_108 0 := ⟨wq_713, ⟨by decide +kernel, by decide +kernel, by decide +kernel⟩, by decide⟩
theorem pm_109_j : px_mm 109 = some pm_109 := rfl
theorem lk_109 : px_lk1 pm_109 0 := ⟨wq_709, ⟨by decide +kernel, by decide +kernel, by decide +kernel⟩, by decide⟩
theorem pm_110_j : px_mm 110 = some pm_110 := rfl
theorem lk_110 : px_lk1 pm_110 1 := ⟨wq_738, ⟨by decide +kernel, by decide +kernel, by decide +kernel⟩, by decide⟩
theorem pm_111_j : px_mm 111 = some pm_111 := rfl
theorem lk_111 : px_lk1 pm_111 1 := ⟨wq_677, ⟨by decide +kernel, by decide +kernel, by decide +kernel⟩, by decide⟩
theorem pm_112_j : px_mm 112 = some pm_112 := rfl
theorem lk_112 : px_lk1 pm_112 3 := ⟨wq_701, ⟨by decide +kernel, by decide +kernel, by decide +kernel⟩, by decide⟩
theorem pm_113_j : px_mm 113 = some pm_113 := rfl
theorem lk_113 : px_lk1 pm_113 4 := ⟨wq_579, ⟨by decide +kernel, by decide +kernel, by decide +kernel⟩, by decide⟩
theorem pm_114_j : px_mm 114 = some pm_114 := rfl
theorem lk_114 : px_lk1 pm_114 0 := ⟨wq_750, ⟨by decide +kernel, by decide +kernel, by decide +kernel⟩, by decide⟩
theorem pm_115_j : px_mm 115 = some pm_115 := rfl
theorem lk_115 : px_lk1 pm_115 0 := ⟨wq_746, ⟨by decide +kernel, by decide +kernel, by decide +kernel⟩, by decide⟩
theorem pm_116_j : px_mm 116 = some pm_116 := rfl
theorem lk_116 : px_lk1 pm_116 1 := ⟨wq_982, ⟨by decide +kernel, by decide +kernel, by decide +kernel⟩, by decide⟩
theorem pm_117_j : px_mm 117 = some pm_117 := rfl
theorem lk_117 : px_lk1 pm_117 3 := ⟨wq_978, ⟨by decide +kernel, by decide +kernel, by decide +kernel⟩, by decide⟩
theorem pm_118_j : px_mm 118 = some pm_118 := rfl
theorem lk_118 : px_lk1 pm_118 3 := ⟨wq_1108, ⟨by decide +kernel, by decide +kernel, by decide +kernel⟩, by decide⟩
theorem pm_119_j : px_mm 119 = some pm_119 := rfl
theorem lk_119 : px_lk1 pm_119 2 := ⟨wq_1309, ⟨by decide +kernel, by decide +kernel, by decide +kernel⟩, by decide⟩
theorem pm_120_j : px_mm 120 = some pm_120 := rfl
theorem lk_120 : px_lk1 pm_120 1 := ⟨wq_1071, ⟨by decide +kernel, by decide +kernel, by decide +kernel⟩, by decide⟩
theorem pm_121_j : px_mm 121 = some pm_121 := rfl
theorem lk_121 : px_lk1 pm_121 1 := ⟨wq_1120, ⟨by decide +kernel, by decide +kernel, by decide +kernel⟩, by decide⟩
theorem pm_122_j : px_mm 122 = some pm_122 := rfl
theorem lk_122 : px_lk1 pm_122 2 := ⟨wq_1075, ⟨by decide +kernel, by decide +kernel, by decide +kernel⟩, by decide⟩
theorem pm_123_j : px_mm 123 = some pm_123 := rfl
theorem lk_123 : px_lk1 pm_123 3 := ⟨wq_1063, ⟨by decide +kernel, by decide +kernel, by decide +kernel⟩, by decide⟩
theorem pm_124_j : px_mm 124 = some pm_124 := rfl
theorem lk_124 : px_lk1 pm_124 2 := ⟨wq_1044, ⟨by decide +kernel, by decide +kernel, by decide +kernel⟩, by decide⟩
theorem pm_125_j : px_mm 125 = some pm_125 := rfl
theorem lk_125 : px_lk1 pm_125 2 := ⟨wq_975, ⟨by decide +kernel, by decide +kernel, by decide +kernel⟩, by decide⟩
theorem pm_126_j : px_mm 126 = some pm_126 := rfl
theorem lk_126 : px_lk1 pm_126 0 := ⟨wq_1016, ⟨by decide +kernel, by decide +kernel, by decide +kernel⟩, by decide⟩
theorem pm_127_j : px_mm 127 = some pm_127 := rfl
theorem lk_127 : px_lk1 pm_127 1 := ⟨wq_1020, ⟨by decide +kernel, by decide +kernel, by decide +kernel⟩, by decide⟩
theorem pm_128_j : px_mm 128 = some pm_128 := rfl
theorem lk_128 : px_lk1 pm_128 2 := ⟨wq_1024, ⟨by decide +kernel, by decide +kernel, by decide +kernel⟩, by decide⟩
theorem pm_129_j : px_mm 129 = some pm_129 := rfl
theorem lk_129 : px_lk1 pm_129 0 := ⟨wq_992, ⟨by decide +kernel, by decide +kernel, by decide +kernel⟩, by decide⟩
theorem pm_130_j : px_mm 130 = some pm_130 := rfl
theorem lk_130 : px_lk1 pm_130 0 := ⟨wq_996, ⟨by decide +kernel, by decide +kernel, by decide +kernel⟩, by decide⟩
theorem pm_131_j : px_mm 131 = some pm_131 := rfl
theorem lk_131 : px_lk1 pm_131 0 := ⟨wq_1000, ⟨by decide +kernel, by decide +kernel, by decide +kernel⟩, by decide⟩
theorem pm_132_j : px_mm 132 = some pm_132 := rfl
theorem lk_132 : px_lk1 pm_132 0 := ⟨wq_1004, ⟨by decide +kernel, by decide +kernel, by decide +kernel⟩, by decide⟩
theorem pm_133_j : px_mm 133 = some pm_133 := rfl
theorem lk_133 : px_lk1 pm_133 0 := ⟨wq_1008, ⟨by decide +kernel, by decide +kernel, by decide +kernel⟩, by decide⟩
theorem pm_134_j : px_mm 134 = some pm_134 := rfl
theorem lk_134 : px_lk1 pm_134 0 := ⟨wq_1028, ⟨by decide +kernel, by decide +kernel, by decide +kernel⟩, by decide⟩
theorem pm_135_j : px_mm 135 = some pm_135 := rfl
theorem lk_135 : px_lk1 pm_135 0 := ⟨wq_1012, ⟨by decide +kernel, by decide +kernel, by decide +kernel⟩, by decide⟩
theorem pm_136_j : px_mm 136 = some pm_136 := rfl
theorem lk_136 : px_lk1 pm_136 1 := ⟨wq_1036, ⟨by decide +kernel, by decide +kernel, by decide +kernel⟩, by decide⟩
theorem pm_137_j : px_mm 137 = some pm_137 := rfl
theorem lk_137 : px_lk1 pm_137 1 := ⟨wq_988, ⟨by decide +kernel, by decide +kernel, by decide +kernel⟩, by decide⟩
theorem pm_138_j : px_mm 138 = some pm_138 := rfl
theorem lk_138 : px_lk1 pm_138 1 := ⟨wq_1032, ⟨by decide +kernel, by decide +kernel, by decide +kernel⟩, by decide⟩
theorem pm_139_j : px_mm 139 = some pm_139 := rfl
theorem lk_139 : px_lk1 pm_139 3 := ⟨wq_1105, ⟨by decide +kernel, by decide +kernel, by decide +kernel⟩, by decide⟩
theorem pm_140_j : px_mm 140 = some pm_140 := rfl
theorem lk_140 : px_lk1 pm_140 1 := ⟨wq_1102, ⟨by decide +kernel, by decide +kernel, by decide +kernel⟩, by decide⟩
theorem pm_141_j : px_mm 141 = some pm_141 := rfl
theorem lk_141 : px_lk1 pm_141 1 := ⟨wq_1128, ⟨by decide +kernel, by decide +kernel, by decide +kernel⟩, by decide⟩
theorem pm_142_j : px_mm 142 = some pm_142 := rfl
theorem lk_142 : px_lk1 pm_142 1 := ⟨wq_1132, ⟨by decide +kernel, by decide +kernel, by decide +kernel⟩, by decide⟩
theorem pm_143_j : px_mm 143 = some pm_143 := rfl
theorem lk_143 : px_lk1 pm_143 1 := ⟨wq_1124, ⟨by decide +kernel, by decide +kernel, by decide +kernel⟩, by decide⟩
theorem pm_144_j : px_mm 144 = some pm_144 := rfl
theorem lk_144 : px_lk1 pm_144 0 := ⟨wq_1140, ⟨by decide +kernel, by decide +kernel, by decide +kernel⟩, by decide⟩
theorem pm_145_j : px_mm 145 = some pm_145 := rfl
theorem lk_145 : px_lk1 pm_145 0 := ⟨wq_1191, ⟨by decide +kernel, by decide +kernel, by decide +kernel⟩, by decide⟩
theorem pm_146_j : px_mm 146 = some pm_146 := rfl
theorem lk_146 : px_lk1 pm_146 0 := ⟨wq_1144, ⟨by decide +kernel, by decide +kernel, by decide +kernel⟩, by decide⟩
theorem pm_147_j : px_mm 147 = some pm_147 := rfl
theorem lk_147 : px_lk1 pm_147 1 := ⟨wq_1187, ⟨by decide +kernel, by decide +kernel, by decide +kernel⟩, by decide⟩
theorem pm_148_j : px_mm 148 = some pm_148 := rfl
theorem lk_148 : px_lk1 pm_148 2 := ⟨wq_1152, ⟨by decide +kernel, by decide +kernel, by decide +kernel⟩, by decide⟩
theorem pm_149_j : px_mm 149 = some pm_149 := rfl
theorem lk_149 : px_lk1 pm_149 2 := ⟨wq_1159, ⟨by decide +kernel, by decide +kernel, by decide +kernel⟩, by decide⟩
theorem pm_150_j : px_mm 150 = some pm_150 := rfl
theorem lk_150 : px_lk1 pm_150 2 := ⟨wq_1156, ⟨by decide +kernel, by decide +kernel, by decide +kernel⟩, by decide⟩
theorem pm_151_j : px_mm 151 = some pm_151 := rfl
theorem lk_151 : px_lk1 pm_151 2 := ⟨wq_1163, ⟨by decide +kernel, by decide +kernel, by decide +kernel⟩, by decide⟩
theorem pm_152_j : px_mm 152 = some pm_152 := rfl
theorem lk_152 : px_lk1 pm_152 2 := ⟨wq_1167, ⟨by decide +kernel, by decide +kernel, by decide +kernel⟩, by decide⟩
theorem pm_153_j : px_mm 153 = some pm_153 := rfl
theorem lk_153 : px_lk1 pm_153 1 := ⟨wq_1175, ⟨by decide +kernel, by decide +kernel, by decide +kernel⟩, by decide⟩
theorem pm_154_j : px_mm 154 = some pm_154 := rfl
theorem lk_154 : px_lk1 pm_154 3 := ⟨wq_1098, ⟨by decide +kernel, by decide +kernel, by decide +kernel⟩, by decide⟩
theorem pm_155_j : px_mm 155 = some pm_155 := rfl
theorem lk_155 : px_lk1 pm_155 3 := ⟨wq_1112, ⟨by decide +kernel, by decide +kernel, by decide +kernel⟩, by decide⟩
theorem pm_156_j : px_mm 156 = some pm_156 := rfl
theorem lk_156 : px_lk1 pm_156 1 := ⟨wq_1171, ⟨by decide +kernel, by decide +kernel, by decide +kernel⟩, by decide⟩
theorem pm_157_j : px_mm 157 = some pm_157 := rfl
theorem lk_157 : px_lk1 pm_157 0 := ⟨wq_1195, ⟨by decide +kernel, by decide +kernel, by decide +kernel⟩, by decide⟩
theorem pm_158_j : px_mm 158 = some pm_158 := rfl
theorem lk_158 : px_lk1 pm_158 2 := ⟨wq_1040, ⟨by decide +kernel, by decide +kernel, by decide +kernel⟩, by decide⟩
theorem pm_159_j : px_mm 159 = some pm_159 := rfl
theorem lk_159 : px_lk1 pm_159 1 := ⟨wq_1048, ⟨by decide +kernel, by decide +kernel, by decide +kernel⟩, by decide⟩
theorem pm_160_j : px_mm 160 = some pm_160 := rfl
theorem lk_160 : px_lk1 pm_160 1 := ⟨wq_1052, ⟨by decide +kernel, by decide +kernel, by decide +kernel⟩, by decide⟩
theorem pm_161_j : px_mm 161 = some pm_161 := rfl
theorem lk_161 : px_lk1 pm_161 1 := ⟨wq_1059, ⟨by decide +kernel, by decide +kernel, by decide +kernel⟩, by decide⟩
theorem pm_162_j : px_mm 162 = some pm_162 := rfl
theorem lk_162 : px_lk1 pm_162 3 := ⟨wq_1056, ⟨by decide +kernel, by decide +kernel, by decide +kernel⟩, by decide⟩
theorem pm_163_j : px_mm 163 = some pm_163 := rfl
theorem lk_163 : px_lk1 pm_163 2 := ⟨wq_1067, ⟨by decide +kernel, by decide +kernel, by decide +kernel⟩, by decide⟩
theorem pm_164_j : px_mm 164 = some pm_164 := rfl
theorem lk_164 : px_lk1 pm_164 2 := ⟨wq_1079, ⟨by decide +kernel, by decide +kernel, by decide +kernel⟩, by decide⟩
theorem pm_165_j : px_mm 165 = some pm_165 := rfl
theorem lk_165 : px_lk1 pm_165 2 := ⟨wq_1083, ⟨by decide +kernel, by decide +kernel, by decide +kernel⟩, by decide⟩
theorem pm_166_j : px_mm 166 = some pm_166 := rfl
theorem lk_166 : px_lk1 pm_166 2 := ⟨wq_1090, ⟨by decide +kernel, by decide +kernel, by decide +kernel⟩, by decide⟩
theorem pm_167_j : px_mm 167 = some pm_167 := rfl
theorem lk_167 : px_lk1 pm_167 4 := ⟨wq_1094, ⟨by decide +kernel, by decide +kernel, by decide +kernel⟩, by decide⟩
theorem pm_168_j : px_mm 168 = some pm_168 := rfl
theorem lk_168 : px_lk1 pm_168 2 := ⟨wq_1116, ⟨by decide +kernel, by decide +kernel, by decide +kernel⟩, by decide⟩
theorem pm_169_j : px_mm 169 = some pm_169 := rfl
theorem lk_169 : px_lk1 pm_169 2 := ⟨wq_1136, ⟨by decide +kernel, by decide +kernel, by decide +kernel⟩, by decide⟩
theorem pm_170_j : px_mm 170 = some pm_170 := rfl
theorem lk_170 : px_lk1 pm_170 3 := ⟨wq_1148, ⟨by decide +kernel, by decide +kernel, by decide +kernel⟩, by decide⟩
theorem pm_171_j : px_mm 171 = some pm_171 := rfl
theorem lk_171 : px_lk1 pm_171 0 := ⟨wq_1183, ⟨by decide +kernel, by decide +kernel, by decide +kernel⟩, by decide⟩
theorem pm_172_j : px_mm 172 = some pm_172 := rfl
theorem lk_172 : px_lk1 pm_172 1 := ⟨wq_1179, ⟨by decide +kernel, by decide +kernel, by decide +kernel⟩, by decide⟩
theorem pm_173_j : px_mm 173 = some pm_173 := rfl
theorem lk_173 : px_lk1 pm_173 0 := ⟨wq_1203, ⟨by decide +kernel, by decide +kernel, by decide +kernel⟩, by decide⟩
theorem pm_174_j : px_mm 174 = some pm_174 := rfl
theorem lk_174 : px_lk1 pm_174 1 := ⟨wq_1199, ⟨by decide +kernel, by decide +kernel, by decide +kernel⟩, by decide⟩
theorem pm_175_j : px_mm 175 = some pm_175 := rfl
theorem lk_175 : px_lk1 pm_175 1 := ⟨wq_1208, ⟨by decide +kernel, by decide +kernel, by decide +kernel⟩, by decide⟩
theorem pm_176_j : px_mm 176 = some pm_176 := rfl
theorem lk_176 : px_lk1 pm_176 1 := ⟨wq_1212, ⟨by decide +kernel, by decide +kernel, by decide +kernel⟩, by decide⟩
theorem pm_177_j : px_mm 177 = some pm_177 := rfl
theorem lk_177 : px_lk1 pm_177 1 := ⟨wq_1216, ⟨by decide +kernel, by decide +kernel, by decide +kernel⟩, by decide⟩
theorem pm_178_j : px_mm 178 = some pm_178 := rfl
theorem lk_178 : px_lk1 pm_178 1 := ⟨wq_1220, ⟨by decide +kernel, by decide +kernel, by decide +kernel⟩, by decide⟩
theorem pm_179_j : px_mm 179 = some pm_179 := rfl
theorem lk_179 : px_lk1 pm_179 1 := ⟨wq_1224, ⟨by decide +kernel, by decide +kernel, by decide +kernel⟩, by decide⟩
theorem pm_180_j : px_mm 180 = some pm_180 := rfl
theorem lk_180 : px_lk1 pm_180 2 := ⟨wq_1231, ⟨by decide +kernel, by decide +kernel, by decide +kernel⟩, by decide⟩
theorem pm_181_j : px_mm 181 = some pm_181 := rfl
theorem lk_181 : px_lk1 pm_181 2 := ⟨wq_1228, ⟨by decide +kernel, by decide +kernel, by decide +kernel⟩, by decide⟩
theorem pm_182_j : px_mm 182 = some pm_182 := rfl
theorem lk_182 : px_lk1 pm_182 1 := ⟨wq_1246, ⟨by decide +kernel, by decide +kernel, by decide +kernel⟩, by decide⟩
theorem pm_183_j : px_mm 183 = some pm_183 := rfl
theorem lk_183 : px_lk1 pm_183 2 := ⟨wq_1235, ⟨by decide +kernel, by decide +kernel, by decide +kernel⟩, by decide⟩
theorem pm_184_j : px_mm 184 = some pm_184 := rfl
theorem lk_184 : px_lk1 pm_184 1 := ⟨wq_1262, ⟨by decide +kernel, by decide +kernel, by decide +kernel⟩, by decide⟩
theorem pm_185_j : px_mm 185 = some pm_185 := rfl
theorem lk_185 : px_lk1 pm_185 1 := ⟨wq_1086, ⟨by decide +kernel, by decide +kernel, by decide +kernel⟩, by decide⟩
theorem pm_186_j : px_mm 186 = some pm_186 := rfl
theorem lk_186 : px_lk1 pm_186 0 := ⟨wq_1254, ⟨by decide +kernel, by decide +kernel, by decide +kernel⟩, by decide⟩
theorem pm_187_j : px_mm 187 = some pm_187 := rfl
theorem lk_187 : px_lk1 pm_187 0 := ⟨wq_1270, ⟨by decide +kernel, by decide +kernel, by decide +kernel⟩, by decide⟩
theorem pm_188_j : px_mm 188 = some pm_188 := rfl
theorem lk_188 : px_lk1 pm_188 2 := ⟨wq_1258, ⟨by decide +kernel, by decide +kernel, by decide +kernel⟩, by decide⟩
theorem pm_189_j : px_mm 189 = some pm_189 := rfl
theorem lk_189 : px_lk1 pm_189 2 := ⟨wq_1266, ⟨by decide +kernel, by decide +kernel, by decide +kernel⟩, by decide⟩
theorem pm_190_j : px_mm 190 = some pm_190 := rfl
theorem lk_190 : px_lk1 pm_190 2 := ⟨wq_1274, ⟨by decide +kernel, by decide +kernel, by decide +kernel⟩, by decide⟩
theorem pm_191_j : px_mm 191 = some pm_191 := rfl
theorem lk_191 : px_lk1 pm_191 2 := ⟨wq_1278, ⟨by decide +kernel, by decide +kernel, by decide +kernel⟩, by decide⟩
theorem pm_192_j : px_mm 192 = some pm_192 := rfl
theorem lk_192 : px_lk1 pm_192 3 := ⟨wq_1250, ⟨by decide +kernel, by decide +kernel, by decide +kernel⟩, by decide⟩
theorem pm_193_j : px_mm 193 = some pm_193 := rfl
theorem lk_193 : px_lk1 pm_193 1 := ⟨wq_1282, ⟨by decide +kernel, by decide +kernel, by decide +kernel⟩, by decide⟩
theorem pm_194_j : px_mm 194 = some pm_194 := rfl
theorem lk_194 : px_lk1 pm_194 1 := ⟨wq_1242, ⟨by decide +kernel, by decide +kernel, by decide +kernel⟩, by decide⟩
theorem pm_195_j : px_mm 195 = some pm_195 := rfl
theorem lk_195 : px_lk1 pm_195 3 := ⟨wq_1286, ⟨by decide +kernel, by decide +kernel, by decide +kernel⟩, by decide⟩
theorem pm_196_j : px_mm 196 = some pm_196 := rfl
theorem lk_196 : px_lk1 pm_196 3 := ⟨wq_1290, ⟨by decide +kernel, by decide +kernel, by decide +kernel⟩, by decide⟩
theorem pm_197_j : px_mm 197 = some pm_197 := rfl
theorem lk_197 : px_lk1 pm_197 5 := ⟨wq_1294, ⟨by decide +kernel, by decide +kernel, by decide +kernel⟩, by decide⟩
theorem pm_198_j : px_mm 198 = some pm_198 := rfl
theorem lk_198 : px_lk1 pm_198 1 := ⟨wq_1239, ⟨by decide +kernel, by decide +kernel, by decide +kernel⟩, by decide⟩
theorem pm_199_j : px_mm 199 = some pm_199 := rfl
theorem lk_199 : px_lk1 pm_199 1 := ⟨wq_1298, ⟨by decide +kernel, by decide +kernel, by decide +kernel⟩, by decide⟩
theorem pm_200_j : px_mm 200 = some pm_200 := rfl
theorem lk_200 : px_lk1 pm_200 1 := ⟨wq_1302, ⟨by decide +kernel, by decide +kernel, by decide +kernel⟩, by decide⟩
theorem pm_201_j : px_mm 201 = some pm_201 := rfl
theorem lk_201 : px_lk1 pm_201 0 := ⟨wq_1306, ⟨by decide +kernel, by decide +kernel, by decide +kernel⟩, by decide⟩
theorem pm_202_j : px_mm 202 = some pm_202 := rfl
theorem lk_202 : px_lk1 pm_202 0 := ⟨wq_1313, ⟨by decide +kernel, by decide +kernel, by decide +kernel⟩, by decide⟩
theorem pm_203_j : px_mm 203 = some pm_203 := rfl
theorem lk_203 : px_lk1 pm_203 1 := ⟨wq_1317, ⟨by decide +kernel, by decide +kernel, by decide +kernel⟩, by decide⟩
theorem pm_204_j : px_mm 204 = some pm_204 := rfl
theorem lk_204 : px_lk1 pm_204 0 := ⟨wq_1321, ⟨by decide +kernel, by decide +kernel, by decide +kernel⟩, by decide⟩
theorem pm_205_j : px_mm 205 = some pm_205 := rfl
theorem lk_205 : px_lk1 pm_205 1 := ⟨wq_1325, ⟨by decide +kernel, by decide +kernel, by decide +kernel⟩, by decide⟩
theorem pm_206_j : px_mm 206 = some pm_206 := rfl
theorem lk_206 : px_lk1 pm_206 1 := ⟨wq_1329, ⟨by decide +kernel, by decide +kernel, by decide +kernel⟩, by decide⟩
theorem pm_207_j : px_mm 207 = some pm_207 := rfl
theorem lk_207 : px_lk1 pm_207 1 := ⟨wq_444, ⟨by decide +kernel, by decide +kernel, by decide +kernel⟩, by decide⟩
theorem pm_208_j : px_mm 208 = some pm_208 := rfl
theorem lk_208 : px_lk1 pm_208 2 := ⟨wq_448, ⟨by decide +kernel, by decide +kernel, by decide +kernel⟩, by decide⟩
theorem pm_209_j : px_mm 209 = some pm_209 := rfl
theorem lk_209 : px_lk1 pm_209 0 := ⟨wq_452, ⟨by decide +kernel, by decide +kernel, by decide +kernel⟩, by decide⟩
theorem pm_210_j : px_mm 210 = some pm_210 := rfl
theorem lk_210 : px_lk1 pm_210 0 := ⟨wq_458, ⟨by decide +kernel, by decide +kernel, by decide +kernel⟩, by decide⟩
theorem pm_211_j : px_mm 211 = some pm_211 := rfl
theorem lk_211 : px_lk1 pm_211 0 := ⟨wq_462, ⟨by decide +kernel, by decide +kernel, by decide +kernel⟩, by decide⟩
theorem pm_212_j : px_mm 212 = some pm_212 := rfl
theorem lk_212 : px_lk1 pm_212 4 := ⟨wq_465, ⟨by decide +kernel, by decide +kernel, by decide +kernel⟩, by decide⟩
theorem pm_213_j : px_mm 213 = some pm_213 := rfl
theorem lk_213 : px_lk1 pm_213 1 := ⟨wq_468, ⟨by decide +kernel, by decide +kernel, by decide +kernel⟩, by decide⟩
theorem pm_214_j : px_mm 214 = some pm_214 := rfl
theorem lk_214 : px_lk1 pm_214 4 := ⟨wq_473, ⟨by decide +kernel, by decide +kernel, by decide +kernel⟩, by decide⟩
