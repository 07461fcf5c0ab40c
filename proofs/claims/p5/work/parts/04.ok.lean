def px_ty (tc : Nat → ClassId) : List (ClassId × FieldType) := [(tc 0, .int), (tc 1, .object "FromTheMiddle$Sheet")]
def px_nest : List (String × Nat × MethodName × String) := [(RX3, 44, ⟨RX7, "quotient", "(II)I"⟩, RX7), (RX3, 48, ⟨RX7, "rest", "(II)I"⟩, RX7), (RX4, 82, ⟨RX7, "quotient", "(II)I"⟩, RX7), (RX6, 60, ⟨RX7, "isOfKind", "(II)Z"⟩, RX7), (RX6, 64, ⟨RX7, "quotient", "(II)I"⟩, RX7), (RX7, 30, ⟨RX5, "<init>", "()V"⟩, RX7), (RX7, 37, ⟨RX4, "<init>", "()V"⟩, RX7), (RX7, 44, ⟨RX2, "<init>", "()V"⟩, RX7), (RX7, 51, ⟨RX3, "<init>", "()V"⟩, RX7), (RX7, 58, ⟨RX6, "<init>", "()V"⟩, RX7)]
/-- what is constant: two static rows, two texts, the links among nest mates -/
def px_KC (ad : Nat → Nat) (A : Nat → Prop) (U : State) (H : Heap) : Prop :=
  (va_Z RX7 "LEAST" "[I" (.ref (ad 3000)) A U H ∧ va_T .int (ad 3000) 6 (fun j => .int (px_K0 j)) A U H) ∧ (va_Z RX7 "MOST" "[I" (.ref (ad 3001)) A U H ∧ va_T .int (ad 3001) 6 (fun j => .int (px_K1 j)) A U H) ∧
  (vk_R RX7 132 "ctw" (ad 3002) U ∧ vk_R RX7 134 "hnk" (ad 3003) U) ∧ (∀ q ∈ px_nest, va_Nw (.methodLinkNest q.1 q.2.1 q.2.2.1 q.2.2.2) U) ∧ va_AO RX5 U ∧
  (va_Z "java/lang/String" "COMPACT_STRINGS" "Z" (.int 1) A U H ∧ vk_S 2 [3, 3] [[99, 116, 119], [104, 110, 107]] (fun i => cond (Nat.beq i 0) (ad 3002) (ad 3003)) (fun i => cond (Nat.beq i 0) (ad 3012) (ad 3013)) A U H)
theorem px_KC.kept {ad : Nat → Nat} {A : Nat → Prop} {U : State} {H H1 : Heap} (h : px_KC ad A U H) (hq : ∀ a : Nat, a < H.size → ¬ A a → H1[a]? = H[a]?) : px_KC ad A U H1 := by
  obtain ⟨⟨a1, a2⟩, ⟨b1, b2⟩, hc, hd, he, hf, hg⟩ := h
  exact ⟨⟨a1.kept hq, a2.kept hq⟩, ⟨b1.kept hq, b2.kept hq⟩, hc, hd, he, hf.kept hq, hg.kept hq⟩
theorem px_KC.narrow {ad : Nat → Nat} {A B : Nat → Prop} {U : State} {H : Heap} (h : px_KC ad A U H) (hAB : ∀ q, B q → A q) : px_KC ad B U H := by
  obtain ⟨⟨a1, a2⟩, ⟨b1, b2⟩, hc, hd, he, hf, hg⟩ := h
  exact ⟨⟨a1.narrow hAB, a2.narrow hAB⟩, ⟨b1.narrow hAB, b2.narrow hAB⟩, hc, hd, he, hf.narrow hAB, hg.narrow hAB⟩
theorem px_KC.warm {ad : Nat → Nat} {A : Nat → Prop} {s U : State} {H : Heap} (hW : s.WarmedH U.vm) (h : px_KC ad A s H) : px_KC ad A U H := by
  obtain ⟨⟨a1, a2⟩, ⟨b1, b2⟩, hc, hd, he, hf, hg⟩ := h
  exact ⟨⟨a1.moved hW.alike, a2.moved hW.alike⟩, ⟨b1.moved hW.alike, b2.moved hW.alike⟩, ⟨hc.1.warm hW, hc.2.warm hW⟩, fun q hq => va_Nw.warmM hW (hd q hq), he.moved hW.alike, hf.moved hW.alike, hg.moved hW.alike⟩
theorem px_KC.same {ad : Nat → Nat} {A : Nat → Prop} {s U : State} {H : Heap} (hv : U.vm = s.vm) (h : px_KC ad A s H) : px_KC ad A U H := by
  obtain ⟨⟨a1, a2⟩, ⟨b1, b2⟩, hc, hd, he, hf, hg⟩ := h
  have hal : s.vm.Alike U.vm := by rw [hv]; exact Vm.Alike.refl _
  exact ⟨⟨a1.moved hal, a2.moved hal⟩, ⟨b1.moved hal, b2.moved hal⟩, ⟨hc.1.same hv, hc.2.same hv⟩, fun q hq => va_Nw.same rfl hv.symm (hd q hq), he.moved hal, hf.moved hal, hg.moved hal⟩
/-- a frame of a method, as the steps want it -/
def px_X (own : String) (cc : ByteArray) (nL : Nat) (p : Program) (R : Room) (s : State) (m : MethodId) (args : Array Value) (c : Code) (cells slots : Nat) (A : Nat → Prop) (ad : Nat → Nat) (D : va_G) (tc : Nat → ClassId) : Prop :=
  p.tables.exec = Jvm.exec ∧ c.code = cc ∧ c.maxLocals = nL ∧ s.vm.findClass own = some m.cls ∧ (∀ w ∈ px_words, w.before args s = true) ∧ va_K D vwCl (px_ty tc) s ∧ 1 ≤ R.frames ∧ 80 ≤ R.locals ∧ cells ≤ R.cells ∧ slots ≤ R.slots ∧ px_KC ad A s s.heap ∧ ∀ q, s.heap.size ≤ q → A q
def px_Wd (D : va_G) (tc : Nat → ClassId) (ad : Nat → Nat) (A : Nat → Prop) (H0 : Heap) (h : px_H) (H : Heap) (locs : List Loc) : Prop :=
  va_P D vwCl (px_ws tc ad h) H ∧ va_D A (px_ws tc ad h) ∧ va_S A H0 H locs
abbrev px_M : Type := MethodName × ByteArray × Nat × Option FieldType
def px_wj (M : px_M) : List Cond := .code M.1 M.2.1 M.2.2.1 M.2.2.2 :: px_words
def px_Pre (D : va_G) (tc : Nat → ClassId) (ad : Nat → Nat) (as : List Value) (h : px_H) (sz : Nat) : Array Value → State → Prop :=
  va_Pc (px_ms ad as) (fun U => U.heap.size = sz ∧ va_P D vwCl (px_ws tc ad h) U.heap ∧ va_K D vwCl (px_ty tc) U ∧ va_D (fun _ => True) (px_ws tc ad h) ∧ px_KC ad (va_A (px_ws tc ad h) sz) U U.heap)
def px_Q (D : va_G) (tc : Nat → ClassId) (ad : Nat → Nat) (v : Option Value) (h' : px_H) (A : Nat → Prop) : Array Value → State → Outcome → State → Prop := fun _ st oc t =>
  oc = .returned (v.map (px_mv ad)) ∧ va_P D vwCl (px_ws tc ad h') t.heap ∧ va_D A (px_ws tc ad h') ∧ va_F A st t
def px_Met (l : Launch) (D : va_G) (tc : Nat → ClassId) (ad : Nat → Nat) (rm : Room) (M : px_M) (as : List Value) (h : px_H) (v : Option Value) (h' : px_H) : Prop :=
  ∀ sz : Nat, Met l M.1 (px_wj M) rm (px_Pre D tc ad as h sz) (px_Q D tc ad v h' (va_A (px_ws tc ad h) sz)) 0 0 (va_A (px_ws tc ad h) sz)
/-- what a call of the pure machine says of the machine; mm: the methods by their numbers -/
def px_cbok (mm : Nat → Option px_M) (l : Launch) (R : Room) (D : va_G) (tc : Nat → ClassId) (ad : Nat → Nat) (cb : px_C) : Prop :=
  ∃ rm : Room, rm.frames + 1 ≤ R.frames ∧ 80 + rm.locals ≤ R.locals ∧ rm.cells = 0 ∧ rm.slots = 0 ∧ ∀ (j : Nat) (as : List Value) (h : px_H) (v : Option Value) (h' : px_H), cb j as h = some (v, h') → ∀ M, mm j = some M → px_Met l D tc ad rm M as h v h'
def px_end (cc : ByteArray) (ret : Option FieldType) (pc : Nat) (v : Option Value) (st : List Value) : Prop :=
  (∃ (x : Int32) (ty : FieldType), v = some (.int x) ∧ st = [.int x] ∧ ret = some ty ∧ narrow ty (.int x) = .int x ∧ decode cc pc = .ok (.ireturn, 1)) ∨
  (∃ (x : Value) (n : String), v = some x ∧ st = [x] ∧ (x = .null ∨ ∃ k, x = .ref k) ∧ ret = some (.object n) ∧ decode cc pc = .ok (.areturn, 1)) ∨
  (v = none ∧ st = [] ∧ ret = none ∧ decode cc pc = .ok (.return_, 1))
section PXOK
variable {p : Program} {l : Launch} {e : Env} {R : Room} {s : State} {m : MethodId} {args : Array Value} {below : List Frame} {meth : Method} {c : Code} {cells slots : Nat} {Q : State → Prop} {A : Nat → Prop} {ad : Nat → Nat} {D : va_G} {tc : Nat → ClassId}
def px_tr (p : Program) (l : Launch) (e : Env) (R : Room) (s : State) (m : MethodId) (args : Array Value) (below : List Frame) (meth : Method) (c : Code) (cells slots : Nat) (Q : State → Prop) (A : Nat → Prop) (ad : Nat → Nat) (D : va_G) (tc : Nat → ClassId) (cc : ByteArray) (nL : Nat) (ret : Option FieldType) (pc : Nat) (lv : px_L) (st : List Value) (h : px_H) : px_N → Prop
  | .inl (pc', lv', st', h') => ∀ (H : Heap) (locs : List Loc) (ls : Array Slot), px_Wd D tc ad A s.heap h H locs → lv_has ls nL (px_ml ad lv) →
    (∀ (H' : Heap) (locs' : List Loc) (ls' : Array Slot), px_Wd D tc ad A s.heap h' H' locs' → lv_has ls' nL (px_ml ad lv') → W p l e R s m args below meth c H' locs' cells slots Q (F0 m pc' ls' (px_ms ad st'))) →
    W p l e R s m args below meth c H locs cells slots Q (F0 m pc ls (px_ms ad st))
  | .inr (v, h') => h' = h ∧ px_end cc ret pc v st
end PXOK
/-- a step of a method, at a place, is the machine's -/
def px_ok (mm : Nat → Option px_M) (own : String) (cc : ByteArray) (nL : Nat) (ret : Option FieldType) (pc : Nat) (act : px_A) : Prop :=
  ∀ (p : Program) (l : Launch) (e : Env) (R : Room) (s : State) (m : MethodId) (args : Array Value) (below : List Frame) (meth : Method) (c : Code) (cells slots : Nat) (Q : State → Prop) (A : Nat → Prop) (ad : Nat → Nat) (D : va_G) (tc : Nat → ClassId) (cb : px_C),
    px_X own cc nL p R s m args c cells slots A ad D tc → px_cbok mm l R D tc ad cb → ∀ (lv : px_L) (st : List Value) (h : px_H) (r : px_N), act cb pc lv st h = some r → px_tr p l e R s m args below meth c cells slots Q A ad D tc cc nL ret pc lv st h r
section PXROWS
variable {mm : Nat → Option px_M} {own : String} {cc : ByteArray} {nL : Nat} {ret : Option FieldType} {pc : Nat}
theorem ok_iconst {i : Int} {v : Int32} (hdg : decode cc pc = .ok (.iconst i, 1)) (hv : Int32.ofInt i = v) : px_ok mm own cc nL ret pc (px_pushi v 1) := by
  intro p l e R s m args below meth c cells slots Q A ad D tc cb X _ lv st h r hr
  cases hr
  exact fun H locs ls hW hl k => lv_iconst X.1 X.2.1 hdg hv (k _ _ _ hW hl)
theorem ok_bipush {i : Int} {v : Int32} (hdg : decode cc pc = .ok (.bipush i, 2)) (hv : (Int8.ofInt i).toInt32 = v) : px_ok mm own cc nL ret pc (px_pushi v 2) := by
  intro p l e R s m args below meth c cells slots Q A ad D tc cb X _ lv st h r hr
  cases hr
  exact fun H locs ls hW hl k => lv_bipush X.1 X.2.1 hdg hv (k _ _ _ hW hl)
theorem ok_sipush {i : Int} {v : Int32} (hdg : decode cc pc = .ok (.sipush i, 3)) (hv : (Int16.ofInt i).toInt32 = v) : px_ok mm own cc nL ret pc (px_pushi v 3) := by
  intro p l e R s m args below meth c cells slots Q A ad D tc cb X _ lv st h r hr
  cases hr
  exact fun H locs ls hW hl k => lv_sipush X.1 X.2.1 hdg hv (k _ _ _ hW hl)
theorem ok_ldc {i : Nat} {v : Int32} (hw : Cond.constant own i v ∈ px_words) (hdg : decode cc pc = .ok (.ldc i, 2)) : px_ok mm own cc nL ret pc (px_pushi v 2) := by
  intro p l e R s m args below meth c cells slots Q A ad D tc cb X _ lv st h r hr
  cases hr
  exact fun H locs ls hW hl k => lv_ldc X.1 X.2.1 X.2.2.2.1 (X.2.2.2.2.1 _ hw) hdg (k _ _ _ hW hl)
theorem ok_ldcw {i : Nat} {v : Int32} (hw : Cond.constant own i v ∈ px_words) (hdg : decode cc pc = .ok (.ldc_w i, 3)) : px_ok mm own cc nL ret pc (px_pushi v 3) := by
  intro p l e R s m args below meth c cells slots Q A ad D tc cb X _ lv st h r hr
  cases hr
  exact fun H locs ls hW hl k => lv_ldcw X.1 X.2.1 X.2.2.2.1 (X.2.2.2.2.1 _ hw) hdg (k _ _ _ hW hl)
theorem ok_ldc2 {i : Nat} {v : Int64} (hw : Cond.constantLong own i v ∈ px_words) (hdg : decode cc pc = .ok (.ldc2_w i, 3)) : px_ok mm own cc nL ret pc (px_pushl v 3) := by
  intro p l e R s m args below meth c cells slots Q A ad D tc cb X _ lv st h r hr
  cases hr
  exact fun H locs ls hW hl k => lv_ldc2 X.1 X.2.1 X.2.2.2.1 (X.2.2.2.2.1 _ hw) hdg (k _ _ _ hW hl)
theorem ok_null (hdg : decode cc pc = .ok (.aconst_null, 1)) : px_ok mm own cc nL ret pc px_pushn := by
  intro p l e R s m args below meth c cells slots Q A ad D tc cb X _ lv st h r hr
  cases hr
  exact fun H locs ls hW hl k => lv_null X.1 X.2.1 hdg (k _ _ _ hW hl)
theorem px_ild_r {i n : Nat} {cb : px_C} {lv : px_L} {st : List Value} {h : px_H} {r : px_N} (hr : px_ild i n cb pc lv st h = some r) : ∃ x, px_get lv i = some (.int x) ∧ r = .inl (pc + n, lv, .int x :: st, h) := by
  unfold px_ild at hr
  split at hr
  · next x hx => cases hr; exact ⟨x, hx, rfl⟩
  · cases hr
theorem ok_iload_n {k : Fin 4} {i : Nat} (hi : (k : Nat) = i) (hdg : decode cc pc = .ok (.iload_n k, 1)) : px_ok mm own cc nL ret pc (px_ild i 1) := by
  intro p l e R s m args below meth c cells slots Q A ad D tc cb X _ lv st h r hr
  obtain ⟨x, hx, rfl⟩ := px_ild_r hr
  obtain ⟨q, hq⟩ := px_get_mem ad _ _ _ hx
  exact fun H locs ls hW hl k => lv_iload_n X.1 X.2.1 hdg hi (lv_at hl q hq) (k _ _ _ hW hl)
theorem ok_iload {i : Nat} (hdg : decode cc pc = .ok (.iload i, 2)) : px_ok mm own cc nL ret pc (px_ild i 2) := by
  intro p l e R s m args below meth c cells slots Q A ad D tc cb X _ lv st h r hr
  obtain ⟨x, hx, rfl⟩ := px_ild_r hr
  obtain ⟨q, hq⟩ := px_get_mem ad _ _ _ hx
  exact fun H locs ls hW hl k => lv_iload X.1 X.2.1 hdg (lv_at hl q hq) (k _ _ _ hW hl)
theorem ok_lload_n {k : Fin 4} {i : Nat} (hi : (k : Nat) = i) (hdg : decode cc pc = .ok (.lload_n k, 1)) : px_ok mm own cc nL ret pc (px_lld i 1) := by
  intro p l e R s m args below meth c cells slots Q A ad D tc cb X _ lv st h r hr
  unfold px_lld at hr
  split at hr
  · next x hx =>
    cases hr
    obtain ⟨q, hq⟩ := px_get_mem ad _ _ _ hx
    exact fun H locs ls hW hl k => lv_lload_n X.1 X.2.1 hdg hi (lv_at hl q hq) (k _ _ _ hW hl)
  · cases hr
theorem ok_aload_n {k : Fin 4} {i : Nat} (hi : (k : Nat) = i) (hdg : decode cc pc = .ok (.aload_n k, 1)) : px_ok mm own cc nL ret pc (px_ald i 1) := by
  intro p l e R s m args below meth c cells slots Q A ad D tc cb X _ lv st h r hr
  unfold px_ald at hr
  split at hr
  · next x hx =>
    cases hr
    obtain ⟨q, hq⟩ := px_get_mem ad _ _ _ hx
    exact fun H locs ls hW hl k => lv_aload_n X.1 X.2.1 hdg hi (lv_at hl q hq) (k _ _ _ hW hl)
  · next hx =>
    cases hr
    obtain ⟨q, hq⟩ := px_get_mem ad _ _ _ hx
    exact fun H locs ls hW hl k => lv_aload_nN X.1 X.2.1 hdg hi (lv_at hl q hq) (k _ _ _ hW hl)
  · cases hr
theorem ok_aload {i : Nat} (hdg : decode cc pc = .ok (.aload i, 2)) : px_ok mm own cc nL ret pc (px_ald i 2) := by
  intro p l e R s m args below meth c cells slots Q A ad D tc cb X _ lv st h r hr
  unfold px_ald at hr
  split at hr
  · next x hx =>
    cases hr
    obtain ⟨q, hq⟩ := px_get_mem ad _ _ _ hx
    exact fun H locs ls hW hl k => lv_aload X.1 X.2.1 hdg (lv_at hl q hq) (k _ _ _ hW hl)
  · next hx =>
    cases hr
    obtain ⟨q, hq⟩ := px_get_mem ad _ _ _ hx
    exact fun H locs ls hW hl k => lv_aloadN X.1 X.2.1 hdg (lv_at hl q hq) (k _ _ _ hW hl)
  · cases hr
theorem ok_istore_n {k : Fin 4} {i : Nat} (hi : (k : Nat) = i) (hn : i < nL) (hdg : decode cc pc = .ok (.istore_n k, 1)) : px_ok mm own cc nL ret pc (px_ist i 1) := by
  intro p l e R s m args below meth c cells slots Q A ad D tc cb X _ lv st h r hr
  unfold px_ist at hr
  split at hr
  · cases hr
    exact fun H locs ls hW hl k => lv_istore_n X.1 X.2.1 hdg hi hl hn rfl (fun ls' hl' => k _ _ _ hW (px_has_set (v := .int _) hl'))
  · cases hr
theorem ok_istore {i : Nat} (hn : i < nL) (hdg : decode cc pc = .ok (.istore i, 2)) : px_ok mm own cc nL ret pc (px_ist i 2) := by
  intro p l e R s m args below meth c cells slots Q A ad D tc cb X _ lv st h r hr
  unfold px_ist at hr
  split at hr
  · cases hr
    exact fun H locs ls hW hl k => lv_istore X.1 X.2.1 hdg hl hn rfl (fun ls' hl' => k _ _ _ hW (px_has_set (v := .int _) hl'))
  · cases hr
theorem ok_astore_n {k : Fin 4} {i : Nat} (hi : (k : Nat) = i) (hn : i < nL) (hdg : decode cc pc = .ok (.astore_n k, 1)) : px_ok mm own cc nL ret pc (px_ast i 1) := by
  intro p l e R s m args below meth c cells slots Q A ad D tc cb X _ lv st h r hr
  unfold px_ast at hr
  split at hr
  · cases hr
    exact fun H locs ls hW hl k => lv_astore_n X.1 X.2.1 hdg hi hl hn rfl (fun ls' hl' => k _ _ _ hW (px_has_set (v := .ref _) hl'))
  · cases hr
    exact fun H locs ls hW hl k => lv_astore_nN X.1 X.2.1 hdg hi hl hn rfl (fun ls' hl' => k _ _ _ hW (px_has_set (v := .null) hl'))
  · cases hr
theorem ok_astore {i : Nat} (hn : i < nL) (hdg : decode cc pc = .ok (.astore i, 2)) : px_ok mm own cc nL ret pc (px_ast i 2) := by
  intro p l e R s m args below meth c cells slots Q A ad D tc cb X _ lv st h r hr
  unfold px_ast at hr
  split at hr
  · cases hr
    exact fun H locs ls hW hl k => lv_astore X.1 X.2.1 hdg hl hn rfl (fun ls' hl' => k _ _ _ hW (px_has_set (v := .ref _) hl'))
  · cases hr
    exact fun H locs ls hW hl k => lv_astoreN X.1 X.2.1 hdg hl hn rfl (fun ls' hl' => k _ _ _ hW (px_has_set (v := .null) hl'))
  · cases hr
theorem ok_iinc {i : Nat} {n : Int} {v : Int32} (hn : i < nL) (hv : Int32.ofInt n = v) (hdg : decode cc pc = .ok (.iinc i n, 3)) : px_ok mm own cc nL ret pc (px_iinc i v) := by
  intro p l e R s m args below meth c cells slots Q A ad D tc cb X _ lv st h r hr
  unfold px_iinc at hr
  split at hr
  · next x hx =>
    cases hr
    obtain ⟨q, hq⟩ := px_get_mem ad _ _ _ hx
    exact fun H locs ls hW hl k => lv_iinc X.1 X.2.1 hdg hl hq (by rw [hv]) hn rfl (fun ls' hl' => k _ _ _ hW (px_has_set (v := .int _) hl'))
  · cases hr
theorem ok_dup (hdg : decode cc pc = .ok (.dup, 1)) : px_ok mm own cc nL ret pc px_dup := by
  intro p l e R s m args below meth c cells slots Q A ad D tc cb X _ lv st h r hr
  unfold px_dup at hr
  split at hr
  · cases hr
    exact fun H locs ls hW hl k => lv_dup X.1 X.2.1 hdg rfl (k _ _ _ hW hl)
  · cases hr
    exact fun H locs ls hW hl k => lv_dup X.1 X.2.1 hdg rfl (k _ _ _ hW hl)
  · cases hr
theorem ok_dup2 (hdg : decode cc pc = .ok (.dup2, 1)) : px_ok mm own cc nL ret pc px_dup2 := by
  intro p l e R s m args below meth c cells slots Q A ad D tc cb X _ lv st h r hr
  unfold px_dup2 at hr
  split at hr
  · cases hr
    exact fun H locs ls hW hl k => lv_dup2_11 X.1 X.2.1 hdg rfl rfl (k _ _ _ hW hl)
  · cases hr
theorem ok_pop (hdg : decode cc pc = .ok (.pop, 1)) : px_ok mm own cc nL ret pc px_popi := by
  intro p l e R s m args below meth c cells slots Q A ad D tc cb X _ lv st h r hr
  unfold px_popi at hr
  split at hr
  · cases hr
    exact fun H locs ls hW hl k => lv_pop X.1 X.2.1 hdg rfl (k _ _ _ hW hl)
  · cases hr
theorem px_bin_r {f : Int32 → Int32 → Int32} {cb : px_C} {lv : px_L} {st : List Value} {h : px_H} {r : px_N} (hr : px_bin f cb pc lv st h = some r) : ∃ x y rest, st = .int y :: .int x :: rest ∧ r = .inl (pc + 1, lv, .int (f x y) :: rest, h) := by
  unfold px_bin at hr
  split at hr
  · cases hr; exact ⟨_, _, _, rfl, rfl⟩
  · cases hr
theorem ok_iadd (hdg : decode cc pc = .ok (.iadd, 1)) : px_ok mm own cc nL ret pc (px_bin (fun x y => x + y)) := by
  intro p l e R s m args below meth c cells slots Q A ad D tc cb X _ lv st h r hr
  obtain ⟨x, y, rest, rfl, rfl⟩ := px_bin_r hr
  exact fun H locs ls hW hl k => lv_iadd X.1 X.2.1 hdg (k _ _ _ hW hl)
theorem ok_isub (hdg : decode cc pc = .ok (.isub, 1)) : px_ok mm own cc nL ret pc (px_bin (fun x y => x - y)) := by
  intro p l e R s m args below meth c cells slots Q A ad D tc cb X _ lv st h r hr
  obtain ⟨x, y, rest, rfl, rfl⟩ := px_bin_r hr
  exact fun H locs ls hW hl k => lv_isub X.1 X.2.1 hdg (k _ _ _ hW hl)
theorem ok_imul (hdg : decode cc pc = .ok (.imul, 1)) : px_ok mm own cc nL ret pc (px_bin (fun x y => x * y)) := by
  intro p l e R s m args below meth c cells slots Q A ad D tc cb X _ lv st h r hr
  obtain ⟨x, y, rest, rfl, rfl⟩ := px_bin_r hr
  exact fun H locs ls hW hl k => lv_imul X.1 X.2.1 hdg (k _ _ _ hW hl)
theorem ok_iand (hdg : decode cc pc = .ok (.iand, 1)) : px_ok mm own cc nL ret pc (px_bin (fun x y => x &&& y)) := by
  intro p l e R s m args below meth c cells slots Q A ad D tc cb X _ lv st h r hr
  obtain ⟨x, y, rest, rfl, rfl⟩ := px_bin_r hr
  exact fun H locs ls hW hl k => lv_iand X.1 X.2.1 hdg (k _ _ _ hW hl)
theorem ok_ixor (hdg : decode cc pc = .ok (.ixor, 1)) : px_ok mm own cc nL ret pc (px_bin (fun x y => x ^^^ y)) := by
  intro p l e R s m args below meth c cells slots Q A ad D tc cb X _ lv st h r hr
  obtain ⟨x, y, rest, rfl, rfl⟩ := px_bin_r hr
  exact fun H locs ls hW hl k => lv_ixor X.1 X.2.1 hdg (k _ _ _ hW hl)
theorem ok_ishl (hdg : decode cc pc = .ok (.ishl, 1)) : px_ok mm own cc nL ret pc (px_bin (fun x y => x <<< (y &&& 31))) := by
  intro p l e R s m args below meth c cells slots Q A ad D tc cb X _ lv st h r hr
  obtain ⟨x, y, rest, rfl, rfl⟩ := px_bin_r hr
  exact fun H locs ls hW hl k => lv_ishl X.1 X.2.1 hdg (k _ _ _ hW hl)
theorem ok_ishr (hdg : decode cc pc = .ok (.ishr, 1)) : px_ok mm own cc nL ret pc (px_bin (fun x y => x >>> (y &&& 31))) := by
  intro p l e R s m args below meth c cells slots Q A ad D tc cb X _ lv st h r hr
  obtain ⟨x, y, rest, rfl, rfl⟩ := px_bin_r hr
  exact fun H locs ls hW hl k => lv_ishr X.1 X.2.1 hdg (k _ _ _ hW hl)
theorem ok_iushr (hdg : decode cc pc = .ok (.iushr, 1)) : px_ok mm own cc nL ret pc (px_bin (fun x y => (x.toUInt32 >>> (y.toUInt32 &&& Int32.toUInt32 31)).toInt32)) := by
  intro p l e R s m args below meth c cells slots Q A ad D tc cb X _ lv st h r hr
  obtain ⟨x, y, rest, rfl, rfl⟩ := px_bin_r hr
  exact fun H locs ls hW hl k => lv_iushr X.1 X.2.1 hdg rfl (k _ _ _ hW hl)
theorem ok_idiv (hdg : decode cc pc = .ok (.idiv, 1)) : px_ok mm own cc nL ret pc (px_bin0 (fun x y => x / y)) := by
  intro p l e R s m args below meth c cells slots Q A ad D tc cb X _ lv st h r hr
  unfold px_bin0 at hr
  split at hr
  · next y x rest =>
    by_cases hy : y = 0
    · rw [decide_eq_true hy] at hr; cases hr
    · rw [decide_eq_false hy] at hr
      cases hr
      exact fun H locs ls hW hl k => lv_idiv X.1 X.2.1 hdg hy (k _ _ _ hW hl)
  · cases hr
theorem ok_irem (hdg : decode cc pc = .ok (.irem, 1)) : px_ok mm own cc nL ret pc (px_bin0 (fun x y => x - x / y * y)) := by
  intro p l e R s m args below meth c cells slots Q A ad D tc cb X _ lv st h r hr
  unfold px_bin0 at hr
  split at hr
  · next y x rest =>
    by_cases hy : y = 0
    · rw [decide_eq_true hy] at hr; cases hr
    · rw [decide_eq_false hy] at hr
      cases hr
      exact fun H locs ls hW hl k => lv_irem X.1 X.2.1 hdg hy (k _ _ _ hW hl)
  · cases hr
theorem ok_ineg (hdg : decode cc pc = .ok (.ineg, 1)) : px_ok mm own cc nL ret pc (px_un (fun x => -x)) := by
  intro p l e R s m args below meth c cells slots Q A ad D tc cb X _ lv st h r hr
  unfold px_un at hr
  split at hr
  · cases hr
    exact fun H locs ls hW hl k => lv_ineg X.1 X.2.1 hdg (k _ _ _ hW hl)
  · cases hr
theorem ok_i2b (hdg : decode cc pc = .ok (.i2b, 1)) : px_ok mm own cc nL ret pc (px_un (fun x => x.toInt8.toInt32)) := by
  intro p l e R s m args below meth c cells slots Q A ad D tc cb X _ lv st h r hr
  unfold px_un at hr
  split at hr
  · cases hr
    exact fun H locs ls hW hl k => lv_i2b X.1 X.2.1 hdg rfl (k _ _ _ hW hl)
  · cases hr
theorem ok_i2s (hdg : decode cc pc = .ok (.i2s, 1)) : px_ok mm own cc nL ret pc (px_un (fun x => x.toInt16.toInt32)) := by
  intro p l e R s m args below meth c cells slots Q A ad D tc cb X _ lv st h r hr
  unfold px_un at hr
  split at hr
  · cases hr
    exact fun H locs ls hW hl k => lv_i2s X.1 X.2.1 hdg rfl (k _ _ _ hW hl)
  · cases hr
theorem ok_i2c (hdg : decode cc pc = .ok (.i2c, 1)) : px_ok mm own cc nL ret pc (px_un (fun x => (x.toUInt32 % 65536).toInt32)) := by
  intro p l e R s m args below meth c cells slots Q A ad D tc cb X _ lv st h r hr
  unfold px_un at hr
  split at hr
  · cases hr
    exact fun H locs ls hW hl k => lv_i2c X.1 X.2.1 hdg rfl (k _ _ _ hW hl)
  · cases hr
theorem ok_i2l (hdg : decode cc pc = .ok (.i2l, 1)) : px_ok mm own cc nL ret pc px_i2l := by
  intro p l e R s m args below meth c cells slots Q A ad D tc cb X _ lv st h r hr
  unfold px_i2l at hr
  split at hr
  · cases hr
    exact fun H locs ls hW hl k => lv_i2l X.1 X.2.1 hdg rfl (k _ _ _ hW hl)
  · cases hr
theorem ok_l2i (hdg : decode cc pc = .ok (.l2i, 1)) : px_ok mm own cc nL ret pc px_l2i := by
  intro p l e R s m args below meth c cells slots Q A ad D tc cb X _ lv st h r hr
  unfold px_l2i at hr
  split at hr
  · cases hr
    exact fun H locs ls hW hl k => lv_l2i X.1 X.2.1 hdg rfl (k _ _ _ hW hl)
  · cases hr
theorem ok_land (hdg : decode cc pc = .ok (.land, 1)) : px_ok mm own cc nL ret pc (px_lbin (fun x y => x &&& y)) := by
  intro p l e R s m args below meth c cells slots Q A ad D tc cb X _ lv st h r hr
  unfold px_lbin at hr
  split at hr
  · cases hr
    exact fun H locs ls hW hl k => lv_land X.1 X.2.1 hdg (k _ _ _ hW hl)
  · cases hr
theorem ok_lor (hdg : decode cc pc = .ok (.lor, 1)) : px_ok mm own cc nL ret pc (px_lbin (fun x y => x ||| y)) := by
  intro p l e R s m args below meth c cells slots Q A ad D tc cb X _ lv st h r hr
  unfold px_lbin at hr
  split at hr
  · cases hr
    exact fun H locs ls hW hl k => lv_lor X.1 X.2.1 hdg (k _ _ _ hW hl)
  · cases hr
theorem ok_lshl (hdg : decode cc pc = .ok (.lshl, 1)) : px_ok mm own cc nL ret pc (px_lsh (fun x y => x <<< (y.toInt64 &&& 63))) := by
  intro p l e R s m args below meth c cells slots Q A ad D tc cb X _ lv st h r hr
  unfold px_lsh at hr
  split at hr
  · cases hr
    exact fun H locs ls hW hl k => lv_lshl X.1 X.2.1 hdg rfl (k _ _ _ hW hl)
  · cases hr
theorem ok_lshr (hdg : decode cc pc = .ok (.lshr, 1)) : px_ok mm own cc nL ret pc (px_lsh (fun x y => x >>> (y.toInt64 &&& 63))) := by
  intro p l e R s m args below meth c cells slots Q A ad D tc cb X _ lv st h r hr
  unfold px_lsh at hr
  split at hr
  · cases hr
    exact fun H locs ls hW hl k => lv_lshr X.1 X.2.1 hdg rfl (k _ _ _ hW hl)
  · cases hr
theorem ok_lushr (hdg : decode cc pc = .ok (.lushr, 1)) : px_ok mm own cc nL ret pc (px_lsh (fun x y => (x.toUInt64 >>> (y.toInt64.toUInt64 &&& Int64.toUInt64 63)).toInt64)) := by
  intro p l e R s m args below meth c cells slots Q A ad D tc cb X _ lv st h r hr
  unfold px_lsh at hr
  split at hr
  · cases hr
    exact fun H locs ls hW hl k => lv_lushr X.1 X.2.1 hdg rfl (k _ _ _ hW hl)
  · cases hr
theorem ok_goto {off : Int} {t : Nat} (ht : (pc : Int) + off = (t : Int)) (hdg : decode cc pc = .ok (.goto off, 3)) : px_ok mm own cc nL ret pc (px_goto t) := by
  intro p l e R s m args below meth c cells slots Q A ad D tc cb X _ lv st h r hr
  cases hr
  exact fun H locs ls hW hl k => lv_goto X.1 X.2.1 hdg ht (k _ _ _ hW hl)
theorem ok_if_eq {off : Int} {t : Nat} (ht : (pc : Int) + off = (t : Int)) (hdg : decode cc pc = .ok (.ifCond .eq off, 3)) : px_ok mm own cc nL ret pc (px_if (fun x => decide (x = 0)) t) := by
  intro p l e R s m args below meth c cells slots Q A ad D tc cb X _ lv st h r hr
  unfold px_if at hr
  split at hr
  · cases hr
    exact fun H locs ls hW hl k => lv_if_eq X.1 X.2.1 hdg ht (fun hP => by have q := k _ _ _ hW hl; dsimp only at q; rw [decide_eq_true hP] at q; exact q) (fun hP => by have q := k _ _ _ hW hl; dsimp only at q; rw [decide_eq_false hP] at q; exact q)
  · cases hr
theorem ok_icmp_eq {off : Int} {t : Nat} (ht : (pc : Int) + off = (t : Int)) (hdg : decode cc pc = .ok (.if_icmp .eq off, 3)) : px_ok mm own cc nL ret pc (px_icmp (fun x y => decide (x = y)) t) := by
  intro p l e R s m args below meth c cells slots Q A ad D tc cb X _ lv st h r hr
  unfold px_icmp at hr
  split at hr
  · cases hr
    exact fun H locs ls hW hl k => lv_icmp_eq X.1 X.2.1 hdg ht (fun hP => by have q := k _ _ _ hW hl; dsimp only at q; rw [decide_eq_true hP] at q; exact q) (fun hP => by have q := k _ _ _ hW hl; dsimp only at q; rw [decide_eq_false hP] at q; exact q)
  · cases hr
theorem ok_if_ne {off : Int} {t : Nat} (ht : (pc : Int) + off = (t : Int)) (hdg : decode cc pc = .ok (.ifCond .ne off, 3)) : px_ok mm own cc nL ret pc (px_if (fun x => !decide (x = 0)) t) := by
  intro p l e R s m args below meth c cells slots Q A ad D tc cb X _ lv st h r hr
  unfold px_if at hr
  split at hr
  · cases hr
    exact fun H locs ls hW hl k => lv_if_ne X.1 X.2.1 hdg ht (fun hP => by have q := k _ _ _ hW hl; dsimp only at q; rw [decide_eq_false hP] at q; exact q) (fun hP => by have q := k _ _ _ hW hl; dsimp only at q; rw [decide_eq_true hP] at q; exact q)
  · cases hr
theorem ok_icmp_ne {off : Int} {t : Nat} (ht : (pc : Int) + off = (t : Int)) (hdg : decode cc pc = .ok (.if_icmp .ne off, 3)) : px_ok mm own cc nL ret pc (px_icmp (fun x y => !decide (x = y)) t) := by
  intro p l e R s m args below meth c cells slots Q A ad D tc cb X _ lv st h r hr
  unfold px_icmp at hr
  split at hr
  · cases hr
    exact fun H locs ls hW hl k => lv_icmp_ne X.1 X.2.1 hdg ht (fun hP => by have q := k _ _ _ hW hl; dsimp only at q; rw [decide_eq_false hP] at q; exact q) (fun hP => by have q := k _ _ _ hW hl; dsimp only at q; rw [decide_eq_true hP] at q; exact q)
  · cases hr
theorem ok_if_lt {off : Int} {t : Nat} (ht : (pc : Int) + off = (t : Int)) (hdg : decode cc pc = .ok (.ifCond .lt off, 3)) : px_ok mm own cc nL ret pc (px_if (fun x => decide (x < 0)) t) := by
  intro p l e R s m args below meth c cells slots Q A ad D tc cb X _ lv st h r hr
  unfold px_if at hr
  split at hr
  · cases hr
    exact fun H locs ls hW hl k => lv_if_lt X.1 X.2.1 hdg ht (fun hP => by have q := k _ _ _ hW hl; dsimp only at q; rw [decide_eq_true hP] at q; exact q) (fun hP => by have q := k _ _ _ hW hl; dsimp only at q; rw [decide_eq_false hP] at q; exact q)
  · cases hr
theorem ok_icmp_lt {off : Int} {t : Nat} (ht : (pc : Int) + off = (t : Int)) (hdg : decode cc pc = .ok (.if_icmp .lt off, 3)) : px_ok mm own cc nL ret pc (px_icmp (fun x y => decide (x < y)) t) := by
  intro p l e R s m args below meth c cells slots Q A ad D tc cb X _ lv st h r hr
  unfold px_icmp at hr
  split at hr
  · cases hr
    exact fun H locs ls hW hl k => lv_icmp_lt X.1 X.2.1 hdg ht (fun hP => by have q := k _ _ _ hW hl; dsimp only at q; rw [decide_eq_true hP] at q; exact q) (fun hP => by have q := k _ _ _ hW hl; dsimp only at q; rw [decide_eq_false hP] at q; exact q)
  · cases hr
theorem ok_if_ge {off : Int} {t : Nat} (ht : (pc : Int) + off = (t : Int)) (hdg : decode cc pc = .ok (.ifCond .ge off, 3)) : px_ok mm own cc nL ret pc (px_if (fun x => decide (0 ≤ x)) t) := by
  intro p l e R s m args below meth c cells slots Q A ad D tc cb X _ lv st h r hr
  unfold px_if at hr
  split at hr
  · cases hr
    exact fun H locs ls hW hl k => lv_if_ge X.1 X.2.1 hdg ht (fun hP => by have q := k _ _ _ hW hl; dsimp only at q; rw [decide_eq_true hP] at q; exact q) (fun hP => by have q := k _ _ _ hW hl; dsimp only at q; rw [decide_eq_false hP] at q; exact q)
  · cases hr
theorem ok_icmp_ge {off : Int} {t : Nat} (ht : (pc : Int) + off = (t : Int)) (hdg : decode cc pc = .ok (.if_icmp .ge off, 3)) : px_ok mm own cc nL ret pc (px_icmp (fun x y => decide (y ≤ x)) t) := by
  intro p l e R s m args below meth c cells slots Q A ad D tc cb X _ lv st h r hr
  unfold px_icmp at hr
  split at hr
  · cases hr
    exact fun H locs ls hW hl k => lv_icmp_ge X.1 X.2.1 hdg ht (fun hP => by have q := k _ _ _ hW hl; dsimp only at q; rw [decide_eq_true hP] at q; exact q) (fun hP => by have q := k _ _ _ hW hl; dsimp only at q; rw [decide_eq_false hP] at q; exact q)
  · cases hr
theorem ok_if_gt {off : Int} {t : Nat} (ht : (pc : Int) + off = (t : Int)) (hdg : decode cc pc = .ok (.ifCond .gt off, 3)) : px_ok mm own cc nL ret pc (px_if (fun x => decide (0 < x)) t) := by
  intro p l e R s m args below meth c cells slots Q A ad D tc cb X _ lv st h r hr
  unfold px_if at hr
  split at hr
  · cases hr
    exact fun H locs ls hW hl k => lv_if_gt X.1 X.2.1 hdg ht (fun hP => by have q := k _ _ _ hW hl; dsimp only at q; rw [decide_eq_true hP] at q; exact q) (fun hP => by have q := k _ _ _ hW hl; dsimp only at q; rw [decide_eq_false hP] at q; exact q)
  · cases hr
theorem ok_icmp_gt {off : Int} {t : Nat} (ht : (pc : Int) + off = (t : Int)) (hdg : decode cc pc = .ok (.if_icmp .gt off, 3)) : px_ok mm own cc nL ret pc (px_icmp (fun x y => decide (y < x)) t) := by
  intro p l e R s m args below meth c cells slots Q A ad D tc cb X _ lv st h r hr
  unfold px_icmp at hr
  split at hr
  · cases hr
    exact fun H locs ls hW hl k => lv_icmp_gt X.1 X.2.1 hdg ht (fun hP => by have q := k _ _ _ hW hl; dsimp only at q; rw [decide_eq_true hP] at q; exact q) (fun hP => by have q := k _ _ _ hW hl; dsimp only at q; rw [decide_eq_false hP] at q; exact q)
  · cases hr
theorem ok_if_le {off : Int} {t : Nat} (ht : (pc : Int) + off = (t : Int)) (hdg : decode cc pc = .ok (.ifCond .le off, 3)) : px_ok mm own cc nL ret pc (px_if (fun x => decide (x ≤ 0)) t) := by
  intro p l e R s m args below meth c cells slots Q A ad D tc cb X _ lv st h r hr
  unfold px_if at hr
  split at hr
  · cases hr
    exact fun H locs ls hW hl k => lv_if_le X.1 X.2.1 hdg ht (fun hP => by have q := k _ _ _ hW hl; dsimp only at q; rw [decide_eq_true hP] at q; exact q) (fun hP => by have q := k _ _ _ hW hl; dsimp only at q; rw [decide_eq_false hP] at q; exact q)
  · cases hr
theorem ok_icmp_le {off : Int} {t : Nat} (ht : (pc : Int) + off = (t : Int)) (hdg : decode cc pc = .ok (.if_icmp .le off, 3)) : px_ok mm own cc nL ret pc (px_icmp (fun x y => decide (x ≤ y)) t) := by
  intro p l e R s m args below meth c cells slots Q A ad D tc cb X _ lv st h r hr
  unfold px_icmp at hr
  split at hr
  · cases hr
    exact fun H locs ls hW hl k => lv_icmp_le X.1 X.2.1 hdg ht (fun hP => by have q := k _ _ _ hW hl; dsimp only at q; rw [decide_eq_true hP] at q; exact q) (fun hP => by have q := k _ _ _ hW hl; dsimp only at q; rw [decide_eq_false hP] at q; exact q)
  · cases hr
theorem ok_ifnull {off : Int} {t : Nat} (ht : (pc : Int) + off = (t : Int)) (hdg : decode cc pc = .ok (.ifnull off, 3)) : px_ok mm own cc nL ret pc (px_ifnull t) := by
  intro p l e R s m args below meth c cells slots Q A ad D tc cb X _ lv st h r hr
  unfold px_ifnull at hr
  split at hr
  · cases hr
    exact fun H locs ls hW hl k => lv_ifnullN X.1 X.2.1 hdg ht (k _ _ _ hW hl)
  · cases hr
    exact fun H locs ls hW hl k => lv_ifnull X.1 X.2.1 hdg (k _ _ _ hW hl)
  · cases hr
theorem ok_ifnonnull {off : Int} {t : Nat} (ht : (pc : Int) + off = (t : Int)) (hdg : decode cc pc = .ok (.ifnonnull off, 3)) : px_ok mm own cc nL ret pc (px_ifnn t) := by
  intro p l e R s m args below meth c cells slots Q A ad D tc cb X _ lv st h r hr
  unfold px_ifnn at hr
  split at hr
  · cases hr
    exact fun H locs ls hW hl k => lv_ifnonnullN X.1 X.2.1 hdg (k _ _ _ hW hl)
  · cases hr
    exact fun H locs ls hW hl k => lv_ifnonnull X.1 X.2.1 hdg ht (k _ _ _ hW hl)
  · cases hr
/-- a table's offsets and its targets -/
def px_offs (pc : Nat) : List Int → List Nat → Bool
  | [], [] => true
  | o :: os, t :: ts => decide ((pc : Int) + o = (t : Int)) && px_offs pc os ts
  | _, _ => false
theorem px_offs_at {pc : Nat} : ∀ (os : List Int) (ts : List Nat), px_offs pc os ts = true → os.length = ts.length ∧ ∀ (j : Nat) (t : Nat), px_nth ts j = some t → ∃ o, os[j]? = some o ∧ (pc : Int) + o = (t : Int)
  | [], [], _ => ⟨rfl, fun j t h => by cases h⟩
  | [], _ :: _, h => by cases h
  | _ :: _, [], h => by cases h
  | o :: os, t :: ts, h => by
    unfold px_offs at h
    rw [Bool.and_eq_true, decide_eq_true_eq] at h
    obtain ⟨h1, h2⟩ := px_offs_at os ts h.2
    refine ⟨by simp [h1], fun j q hq => ?_⟩
    cases j with
    | zero => cases hq; exact ⟨o, rfl, h.1⟩
    | succ j => exact h2 j q hq
theorem ok_tableswitch {dflt lo hi : Int} {offs : Array Int} {len d : Nat} {ts : List Nat} (hd : (pc : Int) + dflt = (d : Int)) (ho : px_offs pc offs.toList ts = true) (hh : hi + 1 = lo + (ts.length : Int)) (hdg : decode cc pc = .ok (.tableswitch dflt lo hi offs, len)) : px_ok mm own cc nL ret pc (px_tsw lo ts d) := by
  intro p l e R s m args below meth c cells slots Q A ad D tc cb X _ lv st h r hr
  unfold px_tsw at hr
  split at hr
  · next x rest =>
    cases hr
    obtain ⟨hlen, hat⟩ := px_offs_at _ _ ho
    intro H locs ls hW hl k
    have q := k _ _ _ hW hl
    by_cases h1 : x.toInt < lo
    · refine lv_tableOut X.1 X.2.1 hdg (Or.inl h1) hd ?_
      unfold px_sw at q
      rw [decide_eq_true h1] at q
      exact q
    · unfold px_sw at q
      rw [decide_eq_false h1] at q
      cases hn : px_nth ts (x.toInt - lo).toNat with
      | none =>
        rw [hn] at q
        refine lv_tableOut X.1 X.2.1 hdg (Or.inr ?_) hd q
        rw [px_nth_get] at hn
        have := List.getElem?_eq_none_iff.mp hn
        omega
      | some t =>
        rw [hn] at q
        obtain ⟨o, e1, e2⟩ := hat _ _ hn
        have hlt := px_nth_lt _ _ _ hn
        exact lv_tableIn X.1 X.2.1 hdg h1 (by omega) (by rw [← Array.getElem?_toList]; exact e1) e2 q
  · cases hr
/-- a lookup's pairs and its targets -/
def px_prs (pc : Nat) : List (Int × Int) → List (Int × Nat) → Bool
  | [], [] => true
  | o :: os, t :: ts => decide (o.1 = t.1 ∧ (pc : Int) + o.2 = (t.2 : Int)) && px_prs pc os ts
  | _, _ => false
theorem px_prs_at {pc d : Nat} {dflt : Int} (hd : (pc : Int) + dflt = (d : Int)) (k : Int) : ∀ (os : List (Int × Int)) (ts : List (Int × Nat)), px_prs pc os ts = true → (pc : Int) + Op.lookupswitch.offset os dflt k = (px_lk ts d k : Int)
  | [], [], _ => hd
  | [], _ :: _, h => by cases h
  | _ :: _, [], h => by cases h
  | (a, o) :: os, (b, t) :: ts, h => by
    unfold px_prs at h
    rw [Bool.and_eq_true, decide_eq_true_eq] at h
    obtain ⟨⟨h1, h2⟩, h3⟩ := h
    have ih := px_prs_at hd k os ts h3
    dsimp only at h1 h2
    show (pc : Int) + (if a = k then o else Op.lookupswitch.offset os dflt k) = ((cond (decide (b = k)) t (px_lk ts d k) : Nat) : Int)
    rw [← h1]
    by_cases hk : a = k
    · rw [if_pos hk, decide_eq_true hk]; exact h2
    · rw [if_neg hk, decide_eq_false hk]; exact ih
theorem ok_lookupswitch {dflt : Int} {ps : Array (Int × Int)} {len d : Nat} {ts : List (Int × Nat)} (hd : (pc : Int) + dflt = (d : Int)) (ho : px_prs pc ps.toList ts = true) (hp : (ps.toList.zip (ps.toList.drop 1)).all (fun (a, next) => a.1 < next.1) = true) (hdg : decode cc pc = .ok (.lookupswitch dflt ps, len)) : px_ok mm own cc nL ret pc (px_lsw ts d) := by
  intro p l e R s m args below meth c cells slots Q A ad D tc cb X _ lv st h r hr
  unfold px_lsw at hr
  split at hr
  · next x rest =>
    cases hr
    intro H locs ls hW hl k
    exact lv_lookup X.1 X.2.1 hdg hp rfl (px_prs_at hd _ _ _ ho) (k _ _ _ hW hl)
  · cases hr
theorem px_Wd.get {D : va_G} {tc : Nat → ClassId} {ad : Nat → Nat} {A : Nat → Prop} {H0 : Heap} {h : px_H} {H : Heap} {locs : List Loc} (hW : px_Wd D tc ad A H0 h H locs) : va_P D vwCl (px_ws tc ad h) H := hW.1
theorem px_mv_nth (ad : Nat → Nat) {fs : List Value} {k : Nat} {v : Value} (h : px_nth fs k = some v) : (fs.map (px_mv ad))[k]? = some (px_mv ad v) := by
  rw [px_nth_get] at h
  rw [List.getElem?_map, h]
  rfl
theorem ok_getfield {ci k i N : Nat} {C : String} {T : u_T} (hc : vwCl[ci]? = some (C, T, N)) (hin : ∀ w ∈ u_ws C T N, w ∈ px_words) (hk : k < N) (hw : Cond.fieldLink own i (T k).1 (T k).2.1 (T k).2.2.1 ∈ px_words) (hdg : decode cc pc = .ok (.getfield i, 3)) : px_ok mm own cc nL ret pc (px_getf ci k) := by
  intro p l e R s m args below meth c cells slots Q A ad D tc cb X _ lv st h r hr
  unfold px_getf at hr
  split at hr
  · next a rest =>
    split at hr
    · next cj fs hcell =>
      cases hb : Nat.beq cj ci with
      | false => rw [hb] at hr; cases hr
      | true =>
        rw [hb] at hr
        have hcj := Nat.eq_of_beq_eq_true hb
        subst hcj
        dsimp only [cond] at hr
        split at hr
        · next v hv =>
          cases hr
          intro H locs ls hW hl kk
          have hg := px_ws_get tc ad hcell
          exact va_get (D := D) X.1 X.2.1 X.2.2.2.2.1 hin X.2.2.2.1 X.2.2.2.2.2.1 hW.1 _ hg hc k hk (X.2.2.2.2.1 _ hw) (fun _ h9 => h9) (px_mv_nth ad hv) hdg (kk _ _ _ hW hl)
        · cases hr
    · cases hr
  · cases hr
theorem px_mv_stn (ad : Nat → Nat) (v : Value) : ∀ (fs : List Value) (k : Nat), (fs.map (px_mv ad)).set k (px_mv ad v) = (px_stn fs k v).map (px_mv ad)
  | [], _ => rfl
  | _ :: _, 0 => rfl
  | f :: r, k + 1 => by
    show px_mv ad f :: (r.map (px_mv ad)).set k (px_mv ad v) = px_mv ad f :: (px_stn r k v).map (px_mv ad)
    rw [px_mv_stn ad v r k]
theorem px_bool {x : Int32} (h : (x == 0 || x == 1) = true) : narrow .boolean (.int x) = .int x ∧ fits .boolean (.int x) = true := by
  refine ⟨?_, h⟩
  rcases Bool.or_eq_true_iff.mp h with q | q
  · rw [eq_of_beq q]; rfl
  · rw [eq_of_beq q]; rfl
theorem ok_putfield {z : Bool} {ci k i N : Nat} {C : String} {T : u_T} {ty0 : Nat → FieldType} {ty : FieldType} (hc : vwCl[ci]? = some (C, T, N)) (hin : ∀ w ∈ u_ws C T N, w ∈ px_words) (hty : ∀ k, k < N → parseFieldDescriptor (T k).2.2.1 = some (ty0 k)) (hnm : ∀ a, a < N → ∀ b, b < N → a ≠ b → (T a).2.1 ≠ (T b).2.1) (hk : k < N)
    (hfin : (T k).2.2.2 = false) (hd : parseFieldDescriptor (T k).2.2.1 = some ty) (hz : (z = true ∧ ty = .int) ∨ (z = false ∧ ty = .boolean)) (hw : Cond.fieldLink own i (T k).1 (T k).2.1 (T k).2.2.1 ∈ px_words) (hdg : decode cc pc = .ok (.putfield i, 3)) : px_ok mm own cc nL ret pc (px_putf z ci k) := by
  intro p l e R s m args below meth c cells slots Q A ad D tc cb X _ lv st h r hr
  unfold px_putf at hr
  split at hr
  · next x a rest =>
    split at hr
    · next cj fs hcell =>
      cases hb : (Nat.beq cj ci && Nat.blt k fs.length && (z || x == 0 || x == 1)) with
      | false => rw [hb] at hr; cases hr
      | true =>
        rw [hb] at hr
        rw [Bool.and_eq_true, Bool.and_eq_true] at hb
        have hcj := Nat.eq_of_beq_eq_true hb.1.1
        subst hcj
        cases hr
        have hlt := px_blt.mp hb.1.2
        have hty2 : narrow ty (.int x) = .int x ∧ fits ty (.int x) = true := by
          rcases hz with ⟨h1, h2⟩ | ⟨h1, h2⟩
          · subst h2; exact ⟨rfl, rfl⟩
          · subst h2
            have h3 := hb.2
            rw [h1, Bool.false_or] at h3
            exact px_bool h3
        intro H locs ls hW hl kk
        have hg := px_ws_get tc ad hcell
        refine va_put (D := D) X.1 X.2.1 X.2.2.2.2.1 hin ty0 hty hnm X.2.2.2.1 X.2.2.2.2.2.1 hW.1 hW.2.1 hW.2.2 _ hg hc k hk (X.2.2.2.2.1 _ hw) (fun _ h9 => h9) hfin hd hty2.1 hty2.2 (by rw [List.length_map]; exact hlt) hdg (fun H1 locs1 a1 a2 a3 => ?_)
        have e1 : (ad a, (.inr (cj, (fs.map (px_mv ad)).set k (px_mv ad (.int x))) : va_E)) = (ad a, px_me tc ad (.inr (cj, px_stn fs k (.int x)))) := by
          show _ = (ad a, (.inr (cj, (px_stn fs k (.int x)).map (px_mv ad)) : va_E))
          rw [← px_mv_stn]
        rw [e1, px_ws_set tc ad _ hcell] at a1 a2
        exact kk _ _ _ ⟨a1, a2, a3⟩ hl
    · cases hr
  · cases hr
theorem px_inb_ok {i : Int32} {n : Nat} (h : px_inb i n = true) : vp_in i n := by
  unfold px_inb at h
  rw [Bool.and_eq_true, decide_eq_true_eq] at h
  have h2 := px_blt.mp h.2
  intro q
  rcases q with q | q
  · exact absurd h.1 (by rw [Int32.not_le]; exact q)
  · omega
theorem px_arr_r {h : px_H} {a n : Nat} {f : Nat → Int32} (hr : px_arr h a = some (n, f)) : px_cell h a = some (.inl (0, n, .inl f)) := by
  unfold px_arr at hr
  split at hr
  · next t n' f' hc =>
    cases hb : Nat.beq t 0 with
    | false => rw [hb] at hr; cases hr
    | true =>
      rw [hb] at hr
      cases hr
      rw [hc, Nat.eq_of_beq_eq_true hb]
  · cases hr
theorem ok_iaload (hdg : decode cc pc = .ok (.iaload, 1)) : px_ok mm own cc nL ret pc px_iald := by
  intro p l e R s m args below meth c cells slots Q A ad D tc cb X _ lv st h r hr
  unfold px_iald at hr
  split at hr
  · next i a rest =>
    split at hr
    · next n f ha =>
      cases hb : px_inb i n with
      | false => rw [hb] at hr; cases hr
      | true =>
        rw [hb] at hr
        cases hr
        intro H locs ls hW hl kk
        exact va_iald (D := D) X.1 X.2.1 X.2.2.2.2.2.1 hW.1 _ 0 (px_ws_get tc ad (px_arr_r ha)) rfl (px_inb_ok hb) hdg (kk _ _ _ hW hl)
    · cases hr
  · cases hr
theorem ok_kaload (hdg : decode cc pc = .ok (.iaload, 1)) : px_ok mm own cc nL ret pc px_kald := by
  intro p l e R s m args below meth c cells slots Q A ad D tc cb X _ lv st h r hr
  obtain ⟨hx, hb0, hml, hown, hts, hK, hf1, hf2, hf3, hf4, hKC, hA⟩ := X
  unfold px_kald at hr
  split at hr
  · next i a rest =>
    cases hb : px_inb i 6 with
    | false => rw [hb] at hr; cases hr
    | true =>
      rw [hb] at hr
      cases h0 : Nat.beq a 3000 with
      | true =>
        rw [h0] at hr
        cases hr
        have := Nat.eq_of_beq_eq_true h0
        subst this
        intro H locs ls hW hl kk
        exact va_ti hx hb0 hKC.1.2 hW.2.2 (px_inb_ok hb) rfl hdg (kk _ _ _ hW hl)
      | false =>
        rw [h0] at hr
        cases h1 : Nat.beq a 3001 with
        | false => rw [h1] at hr; cases hr
        | true =>
          rw [h1] at hr
          cases hr
          have := Nat.eq_of_beq_eq_true h1
          subst this
          intro H locs ls hW hl kk
          exact va_ti hx hb0 hKC.2.1.2 hW.2.2 (px_inb_ok hb) rfl hdg (kk _ _ _ hW hl)
  · cases hr
theorem px_isK_r {a : Nat} (h : px_isK a = true) : a = 3002 ∨ a = 3003 := by
  unfold px_isK at h
  rw [Bool.or_eq_true] at h
  rcases h with h | h
  · exact Or.inl (Nat.eq_of_beq_eq_true h)
  · exact Or.inr (Nat.eq_of_beq_eq_true h)
theorem ok_strv {i : Nat} (hw : Cond.fieldLink own i "java/lang/String" "value" "[B" ∈ px_words) (hdg : decode cc pc = .ok (.getfield i, 3)) : px_ok mm own cc nL ret pc px_strv := by
  intro p l e R s m args below meth c cells slots Q A ad D tc cb X _ lv st h r hr
  obtain ⟨hx, hb0, hml, hown, hts, hK, hf1, hf2, hf3, hf4, hKC, hA⟩ := X
  unfold px_strv at hr
  split at hr
  · next a rest =>
    cases hb : px_isK a with
    | false => rw [hb] at hr; cases hr
    | true =>
      rw [hb] at hr
      cases hr
      rcases px_isK_r hb with e | e
      · subst e
        exact fun H locs ls hW hl k => vk_getf hx hb0 ((hKC.2.2.2.2.2.2.1 0 (by decide)).2.2.1) hW.2.2 hown (hts _ hw) (fun _ q => q) hdg (k _ _ _ hW hl)
      · subst e
        exact fun H locs ls hW hl k => vk_getf hx hb0 ((hKC.2.2.2.2.2.2.1 1 (by decide)).2.2.1) hW.2.2 hown (hts _ hw) (fun _ q => q) hdg (k _ _ _ hW hl)
  · cases hr
theorem ok_strc {i : Nat} (hw : Cond.fieldLink own i "java/lang/String" "coder" "B" ∈ px_words) (hdg : decode cc pc = .ok (.getfield i, 3)) : px_ok mm own cc nL ret pc px_strc := by
  intro p l e R s m args below meth c cells slots Q A ad D tc cb X _ lv st h r hr
  obtain ⟨hx, hb0, hml, hown, hts, hK, hf1, hf2, hf3, hf4, hKC, hA⟩ := X
  unfold px_strc at hr
  split at hr
  · next a rest =>
    cases hb : px_isK a with
    | false => rw [hb] at hr; cases hr
    | true =>
      rw [hb] at hr
      cases hr
      rcases px_isK_r hb with e | e
      · subst e
        exact fun H locs ls hW hl k => vk_getf hx hb0 ((hKC.2.2.2.2.2.2.1 0 (by decide)).2.1) hW.2.2 hown (hts _ hw) (fun _ q => q) hdg (k _ _ _ hW hl)
      · subst e
        exact fun H locs ls hW hl k => vk_getf hx hb0 ((hKC.2.2.2.2.2.2.1 1 (by decide)).2.1) hW.2.2 hown (hts _ hw) (fun _ q => q) hdg (k _ _ _ hW hl)
  · cases hr
theorem px_strT0 {ad : Nat → Nat} {A : Nat → Prop} {U : State} {H : Heap} (hKC : px_KC ad A U H) : va_T .byte (ad 3012) 3 (fun j => .int (px_K2 j)) A U H := (hKC.2.2.2.2.2.2.1 0 (by decide)).2.2.2
theorem px_strT1 {ad : Nat → Nat} {A : Nat → Prop} {U : State} {H : Heap} (hKC : px_KC ad A U H) : va_T .byte (ad 3013) 3 (fun j => .int (px_K3 j)) A U H := (hKC.2.2.2.2.2.2.1 1 (by decide)).2.2.2
theorem ok_bald (hdg : decode cc pc = .ok (.baload, 1)) : px_ok mm own cc nL ret pc px_bald := by
  intro p l e R s m args below meth c cells slots Q A ad D tc cb X _ lv st h r hr
  obtain ⟨hx, hb0, hml, hown, hts, hK, hf1, hf2, hf3, hf4, hKC, hA⟩ := X
  unfold px_bald at hr
  split at hr
  · next i a rest =>
    cases hb : px_inb i 3 with
    | false => rw [hb] at hr; cases hr
    | true =>
      rw [hb] at hr
      cases h0 : Nat.beq a 3012 with
      | true =>
        rw [h0] at hr
        cases hr
        have := Nat.eq_of_beq_eq_true h0
        subst this
        intro H locs ls hW hl kk
        exact va_tb hx hb0 (px_strT0 hKC) hW.2.2 (px_inb_ok hb) rfl hdg (kk _ _ _ hW hl)
      | false =>
        rw [h0] at hr
        cases h1 : Nat.beq a 3013 with
        | false => rw [h1] at hr; cases hr
        | true =>
          rw [h1] at hr
          cases hr
          have := Nat.eq_of_beq_eq_true h1
          subst this
          intro H locs ls hW hl kk
          exact va_tb hx hb0 (px_strT1 hKC) hW.2.2 (px_inb_ok hb) rfl hdg (kk _ _ _ hW hl)
  · cases hr
theorem ok_slen (hdg : decode cc pc = .ok (.arraylength, 1)) : px_ok mm own cc nL ret pc px_slen := by
  intro p l e R s m args below meth c cells slots Q A ad D tc cb X _ lv st h r hr
  obtain ⟨hx, hb0, hml, hown, hts, hK, hf1, hf2, hf3, hf4, hKC, hA⟩ := X
  unfold px_slen at hr
  split at hr
  · next a rest =>
    cases h0 : Nat.beq a 3012 with
    | true =>
      rw [h0] at hr
      cases hr
      have := Nat.eq_of_beq_eq_true h0
      subst this
      intro H locs ls hW hl kk
      exact va_tlen hx hb0 (px_strT0 hKC) hW.2.2 rfl hdg (kk _ _ _ hW hl)
    | false =>
      rw [h0] at hr
      cases h1 : Nat.beq a 3013 with
      | false => rw [h1] at hr; cases hr
      | true =>
        rw [h1] at hr
        cases hr
        have := Nat.eq_of_beq_eq_true h1
        subst this
        intro H locs ls hW hl kk
        exact va_tlen hx hb0 (px_strT1 hKC) hW.2.2 rfl hdg (kk _ _ _ hW hl)
  · cases hr
theorem ok_iastore (hdg : decode cc pc = .ok (.iastore, 1)) : px_ok mm own cc nL ret pc px_iast := by
  intro p l e R s m args below meth c cells slots Q A ad D tc cb X _ lv st h r hr
  unfold px_iast at hr
  split at hr
  · next x i a rest =>
    split at hr
    · next n f ha =>
      cases hb : px_inb i n with
      | false => rw [hb] at hr; cases hr
      | true =>
        rw [hb] at hr
        cases hr
        intro H locs ls hW hl kk
        refine va_iast (D := D) X.1 X.2.1 X.2.2.2.2.2.1 hW.1 hW.2.1 hW.2.2 _ 0 (px_ws_get tc ad (px_arr_r ha)) rfl (px_inb_ok hb) hdg (fun H1 locs1 a1 a2 a3 => ?_)
        have e1 : (ad a, (.inl (tc 0, n, .inl (upd f i.toNatClampNeg x)) : va_E)) = (ad a, px_me tc ad (.inl (0, n, .inl (upd f i.toNatClampNeg x)))) := rfl
        have b1 := a1
        have b2 := a2
        erw [e1, px_ws_set tc ad _ (px_arr_r ha)] at b1
        erw [e1, px_ws_set tc ad _ (px_arr_r ha)] at b2
        exact kk _ _ _ ⟨b1, b2, a3⟩ hl
    · cases hr
  · cases hr
theorem ok_aaload (hdg : decode cc pc = .ok (.aaload, 1)) : px_ok mm own cc nL ret pc px_aald := by
  intro p l e R s m args below meth c cells slots Q A ad D tc cb X _ lv st h r hr
  unfold px_aald at hr
  split at hr
  · next i a rest =>
    split at hr
    · next t n f ha =>
      cases hb : (Nat.beq t 1 && px_inb i n) with
      | false => rw [hb] at hr; cases hr
      | true =>
        rw [hb] at hr
        rw [Bool.and_eq_true] at hb
        have := Nat.eq_of_beq_eq_true hb.1
        subst this
        dsimp only [cond] at hr
        have hg := px_ws_get tc ad ha
        split at hr
        · next k hk =>
          cases hr
          intro H locs ls hW hl kk
          refine va_aldq (D := D) X.1 X.2.1 X.2.2.2.2.2.1 hW.1 _ 1 hg rfl (px_inb_ok hb.2) hdg ?_
          have q := kk _ _ _ hW hl
          rw [hk]
          exact q
        · next hk =>
          cases hr
          intro H locs ls hW hl kk
          refine va_aldq (D := D) X.1 X.2.1 X.2.2.2.2.2.1 hW.1 _ 1 hg rfl (px_inb_ok hb.2) hdg ?_
          have q := kk _ _ _ hW hl
          rw [hk]
          exact q
    · cases hr
  · cases hr
theorem ok_arraylength (hdg : decode cc pc = .ok (.arraylength, 1)) : px_ok mm own cc nL ret pc px_alen := by
  intro p l e R s m args below meth c cells slots Q A ad D tc cb X _ lv st h r hr
  unfold px_alen at hr
  split at hr
  · next a rest =>
    split at hr
    · next t n f ha =>
      cases hb : Nat.beq t 0 with
      | false => rw [hb] at hr; cases hr
      | true =>
        rw [hb] at hr
        cases hr
        have := Nat.eq_of_beq_eq_true hb
        subst this
        intro H locs ls hW hl kk
        exact va_alen (D := D) X.1 X.2.1 X.2.2.2.2.2.1 hW.1 _ 0 (px_ws_get tc ad ha) rfl rfl hdg (kk _ _ _ hW hl)
    · next t n f ha =>
      cases hb : Nat.beq t 1 with
      | false => rw [hb] at hr; cases hr
      | true =>
        rw [hb] at hr
        cases hr
        have := Nat.eq_of_beq_eq_true hb
        subst this
        intro H locs ls hW hl kk
        exact va_alen (D := D) X.1 X.2.1 X.2.2.2.2.2.1 hW.1 _ 1 (px_ws_get tc ad ha) rfl rfl hdg (kk _ _ _ hW hl)
    · cases hr
  · cases hr
end PXROWS
