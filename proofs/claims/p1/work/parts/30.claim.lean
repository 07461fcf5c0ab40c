theorem px_sh_ad (ad : Nat → Nat) : (fun j => (px_sh j).map ad) = va_up (va_up (va_up (va_up (fun _ => (none : Option Nat)) 0 (some (ad 42))) 1 (some (ad 45))) 2 (some (ad 48))) 3 (some (ad 51)) := by
  funext j
  match j with
  | 0 => rfl
  | 1 => rfl
  | 2 => rfl
  | 3 => rfl
  | n + 4 => rfl
theorem px_ints (C n : String) {args : Array Value} {s : State} {A : Nat → Prop} (l : List Int32) (hA : ∀ a : Nat, a < s.heap.size → ¬ A a) (hl : l.length = 6) (hls : (Cond.laysStatic C n "[I").before args s = true) (hini : (Cond.initialized C).before args s = true) (h1 : (Cond.arrayOf (.static C n "[I") .int).before args s = true) (h2 : (Cond.eq (.length (.static C n "[I")) (.int 6)).before args s = true) (h3 : ∀ j : Nat, j < 6 → (Cond.eq (.elem (.static C n "[I") (.int (Int32.ofNat j))) (.int (l.getD j 0))).before args s = true) :
    ∃ t : Nat, va_Z C n "[I" (.ref t) A s s.heap ∧ va_T .int t 6 (fun j => .int (l.getD j 0)) A s s.heap := by
  obtain ⟨t, ht, hT⟩ := va_Tof (N := 6) (f := fun j => .int (l.getD j 0)) (A := A) (by decide) h1 (va_eqt h2) (fun j hj => va_eqt (h3 j hj)) hA
  exact ⟨t, va_Zof hls hini ht hA, hT⟩
theorem px_vkS_two {len : List Nat} {byt : List (List Int32)} {adK adV : Nat → Nat} {A : Nat → Prop} {U : State} {H : Heap} (h : vk_S 2 len byt adK adV A U H) : vk_S 2 len byt (fun i => cond (Nat.beq i 0) (adK 0) (adK 1)) adV A U H := by
  have e : ∀ i : Nat, i < 2 → (fun i => cond (Nat.beq i 0) (adK 0) (adK 1)) i = adK i := fun i hi => by rcases (show i = 0 ∨ i = 1 by omega) with rfl | rfl <;> rfl
  refine ⟨fun i hi => ?_, fun i j hi hj hij => ?_⟩
  · rw [e i hi]; exact h.1 i hi
  · rw [e i hi, e j hj] at hij; exact h.2 i j hi hj hij
set_option maxRecDepth 100000 in
set_option maxHeartbeats 4000000 in
/-- what the Statement gives of the constants -/
theorem px_consts {s : State} {b : Nat} (hts : ∀ w ∈ lw_tbl, w.before #[Value.ref b] s = true) (hgv : (Jvm.Cond.and given_1 narrow_1).before #[Value.ref b] s = true) : ∃ adc : Nat → Nat, adc 3004 = b ∧ px_KC adc (fun q => s.heap.size ≤ q) s s.heap := by
  have hs := flat_of_before _ hgv
  have hA : ∀ a : Nat, a < s.heap.size → ¬ s.heap.size ≤ a := fun a h => Nat.not_le.mpr h
  obtain ⟨a0, z0, t0⟩ := px_ints "FromTheMiddle" "LEAST" (A := fun q => s.heap.size ≤ q) px_K0l hA rfl (hts (Cond.laysStatic "FromTheMiddle" "LEAST" "[I") (List.mem_of_getElem? (i := 333) (by decide +kernel))) (hts (Cond.initialized "FromTheMiddle") (List.mem_of_getElem? (i := 85) (by decide +kernel))) (hs _ (by decide +kernel)) (hs _ (by decide +kernel)) (fun j hj => by rcases (show j = 0 ∨ j = 1 ∨ j = 2 ∨ j = 3 ∨ j = 4 ∨ j = 5 by omega) with rfl | rfl | rfl | rfl | rfl | rfl <;> exact hs _ (by decide +kernel))
  obtain ⟨a1, z1, t1⟩ := px_ints "FromTheMiddle" "MOST" (A := fun q => s.heap.size ≤ q) px_K1l hA rfl (hts (Cond.laysStatic "FromTheMiddle" "MOST" "[I") (List.mem_of_getElem? (i := 335) (by decide +kernel))) (hts (Cond.initialized "FromTheMiddle") (List.mem_of_getElem? (i := 85) (by decide +kernel))) (hs _ (by decide +kernel)) (hs _ (by decide +kernel)) (fun j hj => by rcases (show j = 0 ∨ j = 1 ∨ j = 2 ∨ j = 3 ∨ j = 4 ∨ j = 5 by omega) with rfl | rfl | rfl | rfl | rfl | rfl <;> exact hs _ (by decide +kernel))
  obtain ⟨adK, adV, hS, hE⟩ := vk_Sof (s := s) (args := #[Value.ref b]) (N := 2) (tm := fun i => cond (Nat.beq i 0) (.string "FromTheMiddle" 132) (.string "FromTheMiddle" 134)) (len := [3, 3]) (byt := [[99, 116, 119], [104, 110, 107]]) (A := fun q => s.heap.size ≤ q)
    (fun i hi => by rcases (show i = 0 ∨ i = 1 by omega) with rfl | rfl <;> decide)
    (fun i hi => by rcases (show i = 0 ∨ i = 1 by omega) with rfl | rfl <;> exact hs _ (by decide +kernel))
    (fun i hi => by rcases (show i = 0 ∨ i = 1 by omega) with rfl | rfl <;> exact hs _ (by decide +kernel))
    (fun i hi => by rcases (show i = 0 ∨ i = 1 by omega) with rfl | rfl <;> exact hs _ (by decide +kernel))
    (fun i hi => by rcases (show i = 0 ∨ i = 1 by omega) with rfl | rfl <;> exact hs _ (by decide +kernel))
    (fun i hi j hj => by
      rcases (show i = 0 ∨ i = 1 by omega) with rfl | rfl
      · rcases (show j = 0 ∨ j = 1 ∨ j = 2 by have : j < 3 := hj; omega) with rfl | rfl | rfl <;> exact hs _ (by decide +kernel)
      · rcases (show j = 0 ∨ j = 1 ∨ j = 2 by have : j < 3 := hj; omega) with rfl | rfl | rfl <;> exact hs _ (by decide +kernel))
    (fun i j hi hj hij => by
      rcases (show i = 0 ∨ i = 1 by omega) with rfl | rfl <;> rcases (show j = 0 ∨ j = 1 by omega) with rfl | rfl
      · exact absurd rfl hij
      · exact Or.inl (hs _ (by decide +kernel))
      · exact Or.inr (hs _ (by decide +kernel))
      · exact absurd rfl hij) hA
  have e0 := hE 0 (by omega)
  have e1 := hE 1 (by omega)
  refine ⟨fun k => cond (Nat.beq k 3000) a0 (cond (Nat.beq k 3001) a1 (cond (Nat.beq k 3002) (adK 0) (cond (Nat.beq k 3003) (adK 1) b))), rfl, ⟨z0, t0⟩, ⟨z1, t1⟩, ⟨vk_R.of (hts (Cond.stringRef "FromTheMiddle" 132 "ctw") (List.mem_of_getElem? (i := 421) (by decide +kernel))) ?_, vk_R.of (hts (Cond.stringRef "FromTheMiddle" 134 "hnk") (List.mem_of_getElem? (i := 422) (by decide +kernel))) ?_⟩, ?_, (va_AO.of (A := #[Value.ref b]) (hts (Cond.arrayOver (.object "FromTheMiddle$Sheet")) (List.mem_of_getElem? (i := 178) (by decide +kernel)))), va_Zof (hts (Cond.laysStatic "java/lang/String" "COMPACT_STRINGS" "Z") (List.mem_of_getElem? (i := 454) (by decide +kernel))) (hts (Cond.initialized "java/lang/String") (List.mem_of_getElem? (i := 95) (by decide +kernel))) (va_eqt (hs _ (by decide +kernel))) hA, adV, ?_⟩
  · exact e0
  · exact e1
  · intro q hq
    simp only [px_nest, List.mem_cons, List.not_mem_nil, or_false] at hq
    rcases hq with rfl | rfl | rfl | rfl | rfl | rfl | rfl | rfl | rfl | rfl
    · exact va_Nw.of rfl (hts (Cond.methodLinkNest "FromTheMiddle$Reckoner" 44 ⟨"FromTheMiddle", "quotient", "(II)I"⟩ "FromTheMiddle") (List.mem_of_getElem? (i := 596) (by decide +kernel)))
    · exact va_Nw.of rfl (hts (Cond.methodLinkNest "FromTheMiddle$Reckoner" 48 ⟨"FromTheMiddle", "rest", "(II)I"⟩ "FromTheMiddle") (List.mem_of_getElem? (i := 599) (by decide +kernel)))
    · exact va_Nw.of rfl (hts (Cond.methodLinkNest "FromTheMiddle$Row" 82 ⟨"FromTheMiddle", "quotient", "(II)I"⟩ "FromTheMiddle") (List.mem_of_getElem? (i := 635) (by decide +kernel)))
    · exact va_Nw.of rfl (hts (Cond.methodLinkNest "FromTheMiddle$Voices" 60 ⟨"FromTheMiddle", "isOfKind", "(II)Z"⟩ "FromTheMiddle") (List.mem_of_getElem? (i := 813) (by decide +kernel)))
    · exact va_Nw.of rfl (hts (Cond.methodLinkNest "FromTheMiddle$Voices" 64 ⟨"FromTheMiddle", "quotient", "(II)I"⟩ "FromTheMiddle") (List.mem_of_getElem? (i := 824) (by decide +kernel)))
    · exact va_Nw.of rfl (hts (Cond.methodLinkNest "FromTheMiddle" 30 ⟨"FromTheMiddle$Sheet", "<init>", "()V"⟩ "FromTheMiddle") (List.mem_of_getElem? (i := 180) (by decide +kernel)))
    · exact va_Nw.of rfl (hts (Cond.methodLinkNest "FromTheMiddle" 37 ⟨"FromTheMiddle$Row", "<init>", "()V"⟩ "FromTheMiddle") (List.mem_of_getElem? (i := 197) (by decide +kernel)))
    · exact va_Nw.of rfl (hts (Cond.methodLinkNest "FromTheMiddle" 44 ⟨"FromTheMiddle$Reader", "<init>", "()V"⟩ "FromTheMiddle") (List.mem_of_getElem? (i := 236) (by decide +kernel)))
    · exact va_Nw.of rfl (hts (Cond.methodLinkNest "FromTheMiddle" 51 ⟨"FromTheMiddle$Reckoner", "<init>", "()V"⟩ "FromTheMiddle") (List.mem_of_getElem? (i := 261) (by decide +kernel)))
    · exact va_Nw.of rfl (hts (Cond.methodLinkNest "FromTheMiddle" 58 ⟨"FromTheMiddle$Voices", "<init>", "()V"⟩ "FromTheMiddle") (List.mem_of_getElem? (i := 273) (by decide +kernel)))
  · exact px_vkS_two hS
theorem px_known {s : State} {b : Nat} (hts : ∀ w ∈ lw_tbl, w.before #[Value.ref b] s = true) : ∃ (D : va_G) (tc : Nat → ClassId), va_K D vwCl (px_ty tc) s := by
  have hws : ∀ w ∈ px_words, w.before #[Value.ref b] s = true := fun w hw => hts w (px_words_good w hw).1
  obtain ⟨c0, iS0, hKn0⟩ := u_known (C := RX0) (T := TX0) (N := 10) (n := 10) hws inw_0 (hws (.instantiable RX0 10) wq_110)
  obtain ⟨c1, iS1, hKn1⟩ := u_known (C := RX1) (T := TX1) (N := 2) (n := 2) hws inw_1 (hws (.instantiable RX1 2) wq_116)
  obtain ⟨c2, iS2, hKn2⟩ := u_known (C := RX2) (T := TX2) (N := 5) (n := 5) hws inw_2 (hws (.instantiable RX2 5) wq_235)
  obtain ⟨c3, iS3, hKn3⟩ := u_known (C := RX3) (T := TX3) (N := 1) (n := 1) hws inw_3 (hws (.instantiable RX3 1) wq_260)
  obtain ⟨c4, iS4, hKn4⟩ := u_known (C := RX4) (T := TX4) (N := 9) (n := 9) hws inw_4 (hws (.instantiable RX4 9) wq_196)
  obtain ⟨c5, iS5, hKn5⟩ := u_known (C := RX5) (T := TX5) (N := 2) (n := 2) hws inw_5 (hws (.instantiable RX5 2) wq_179)
  obtain ⟨c6, iS6, hKn6⟩ := u_known (C := RX6) (T := TX6) (N := 4) (n := 4) hws inw_6 (hws (.instantiable RX6 4) wq_272)
  obtain ⟨c7, iS7, hKn7⟩ := u_known (C := RX7) (T := TX7) (N := 9) (n := 9) hws inw_7 (hws (.instantiable RX7 9) wq_102)
  obtain ⟨c8, iS8, hKn8⟩ := u_known (C := RX8) (T := TX8) (N := 24) (n := 24) hws inw_8 (hws (.instantiable RX8 24) wq_894)
  obtain ⟨cA, kA, comp, f1, f2, f3⟩ := Cond.arrayClass_spec (show (Cond.arrayClass .int).holds #[Value.ref b] s none s [] = true from hws (.arrayClass .int) wq_131)
  obtain ⟨comp2, cB, kB, g1, g2, g3, g4, g5⟩ := Cond.arrayOver_spec (show (Cond.arrayOver (.object "FromTheMiddle$Sheet")).holds #[Value.ref b] s none s [] = true from (hts (Cond.arrayOver (.object "FromTheMiddle$Sheet")) (List.mem_of_getElem? (i := 178) (by decide +kernel))))
  refine ⟨(fun k => if k = 0 then c0 else if k = 1 then c1 else if k = 2 then c2 else if k = 3 then c3 else if k = 4 then c4 else if k = 5 then c5 else if k = 6 then c6 else if k = 7 then c7 else c8, fun k => if k = 0 then iS0 else if k = 1 then iS1 else if k = 2 then iS2 else if k = 3 then iS3 else if k = 4 then iS4 else if k = 5 then iS5 else if k = 6 then iS6 else if k = 7 then iS7 else iS8), fun k => if k = 0 then cA else cB, ?_, ?_⟩
  · intro k q hq
    match k, hq with
    | 0, hq => cases hq; exact hKn0
    | 1, hq => cases hq; exact hKn1
    | 2, hq => cases hq; exact hKn2
    | 3, hq => cases hq; exact hKn3
    | 4, hq => cases hq; exact hKn4
    | 5, hq => cases hq; exact hKn5
    | 6, hq => cases hq; exact hKn6
    | 7, hq => cases hq; exact hKn7
    | 8, hq => cases hq; exact hKn8
    | k + 9, hq => simp at hq
  · intro k q hq
    match k, hq with
    | 0, hq => cases hq; exact ⟨fun n z => ⟨(fun k h => by cases h), kA, f2, comp, f3⟩, f1⟩
    | 1, hq => cases hq; exact ⟨fun n z => ⟨(fun k h => by cases h), kB, g3, comp2, g4⟩, kB, comp2, g3, g4, g1, g5⟩
    | k + 2, hq => simp [px_ty] at hq
/-! THE CLAIM OUT OF ONE WALK OF THE LAW'S BODY. Your part is whole_start (and what it stands on); all else here is the same for every law, but numbers. -/
def R_law : String := "FromTheMiddleLaw"
def lw_P (b : Addr) (xs : List Int32) (args : Array Value) (s : State) : Prop := args = #[.ref b] ∧ s.IntsAt b xs ∧ xs.length ≤ 6 ∧ (Jvm.Cond.and given_1 narrow_1).before args s = true
def lw_Q (_ : Array Value) (s : State) (o : Outcome) (t : State) : Prop := o = .returned (some (.int 1)) ∧ Framed s o t [] 600000 7302250
def lw_Z (below : List Frame) (a : Array Value) (s : State) : State → Prop := fun t => ∃ o, t.status = .running ∧ Ended t below o ∧ lw_Q a s o t
/-- the law's own end, with 1 on the stack, nothing written that was there before, its room as the claim has it -/
theorem lw_ret {p : Program} {l : Launch} {e : Env} {s : State} {m : MethodId} {below : List Frame} {meth : Method} {c : Code} {b : Nat} (hx : p.tables.exec = Jvm.exec) (hb : c.code = code) (hr : meth.sig.returnType = ret) (hlocks : meth.locks = false) {pc : Nat} {H : Heap} {ls : Array Slot} (hdg : decode code pc = .ok (.ireturn, 1)) : W p l e room_1 s m #[Value.ref b] below meth c H [] 600000 7302250 (lw_Z below #[Value.ref b] s) (F0 m pc ls [.int 1]) := by
  intro T hT X
  obtain ⟨fs, hret, hrun, hended, hW, hframe⟩ := X.leave (v := some (.int 1)) (hlocks := hlocks) (fun h => by rw [hr] at h; cases h)
  have hmeth' : T.vm.method? m = some meth := X.method'
  refine ⟨T.setFrames fs, ?_, .returned (some (.int 1)), hrun, hended, rfl, ⟨_, rfl⟩, hW, hframe⟩
  jvm_step X.here [X.here.top, hx, hb, hdg, hmeth', hr, ret, narrow_b1]
  (try refine ⟨rfl, ?_⟩); (try refine ⟨rfl, ?_⟩)
  first | (intro acts; rw [hret _ acts rfl rfl rfl]) | rw [hret _ _ rfl rfl rfl]
  exact Steps.refl _
/-- what holds at the law's entry: the machine, the code, the tables' words (any of lw_tbl by 'hts w (by decide +kernel)'), the script of L ints xs at the cell b, what the Statement gives of the start (any of its parts by flat_of_before) -/
def lw_At (p : Program) (s : State) (m : MethodId) (meth : Method) (c : Code) (b L : Nat) (xs : Nat → Int32) : Prop :=
  p.tables.exec = Jvm.exec ∧ c.code = code ∧ meth.sig.returnType = ret ∧ c.maxLocals = 4 ∧ s.vm.findClass R_law = some m.cls ∧ (∀ w ∈ lw_tbl, w.before #[Value.ref b] s = true) ∧ va_X b L xs s s.heap ∧ b < s.heap.size ∧ meth.locks = false ∧ (Jvm.Cond.and given_1 narrow_1).before #[Value.ref b] s = true
set_option maxRecDepth 100000 in
set_option maxHeartbeats 4000000 in
theorem whole_start {p : Program} {e : Env} {s : State} {m : MethodId} {below : List Frame} {meth : Method} {c : Code} (l : Launch) (hflags : l.flags = flags0) {b L : Nat} {xs : Nat → Int32} (hL : L ≤ 6) (C0 : lw_At p s m meth c b L xs) : W p l e room_1 s m #[Value.ref b] below meth c s.heap [] 0 0 (lw_Z below #[Value.ref b] s) (entryFrame m ([Value.ref b] : List Value).toArray 4) := by
  obtain ⟨nf, hfin, hpure⟩ := law_pure (L := L) (xs := xs) hL
  obtain ⟨hx, hb, hr, hml, hown, hts, hX, hbl, hlocks, hgv⟩ := C0
  obtain ⟨adc, hadb, hKC⟩ := px_consts hts hgv
  obtain ⟨D, tc, hK⟩ := px_known hts
  have hws : ∀ w ∈ px_words, w.before #[Value.ref b] s = true := fun w hw => hts w (px_words_good w hw).1
  have hA : ∀ q : Nat, s.heap.size ≤ q → (fun q : Nat => s.heap.size ≤ q) q := fun _ h => h
  have X : px_X "FromTheMiddleLaw" code 4 p room_1 s m #[Value.ref b] c 0 0 (fun q => s.heap.size ≤ q) adc D tc := ⟨hx, hb, hml, hown, hws, hK, Nat.le_of_ble_eq_true rfl, Nat.le_of_ble_eq_true rfl, Nat.zero_le _, Nat.zero_le _, hKC, hA⟩
  have hW : cx_Wd D (fun q => s.heap.size ≤ q) s.heap [] s.heap [] := ⟨fun k q h => by simp at h, ⟨fun i j p q h => by simp at h, fun k q h => by simp at h⟩, va_S.rf⟩
  have hl := lv_entry ([.ref b]) (n := 4) (Nat.le_of_ble_eq_true rfl)
  rw [lg_entry_eq]
  generalize (lg_sl ([.ref b]) ++ List.replicate (4 - (lg_sl ([.ref b])).length) Slot.unset).toArray = ls at hl ⊢
  have hl : lv_has ls 4 [(0, .ref b)] := hl
  refine k_new (ci := 7) (fs := [.null, .null, .int 0, .null, .null, .null, .null, .null, .null]) tyX7 X rfl inw_7 tyX7_ok wq_101 wq_102 wq_85 (fun j hj => by rcases (show j = 0 ∨ j = 1 ∨ j = 2 ∨ j = 3 ∨ j = 4 ∨ j = 5 ∨ j = 6 ∨ j = 7 ∨ j = 8 by omega) with rfl | rfl | rfl | rfl | rfl | rfl | rfl | rfl | rfl <;> rfl) (Nat.le_of_ble_eq_true rfl) (Nat.le_of_ble_eq_true rfl) (by decide +kernel) hW (fun qx H hW => ?_)
  have hW : cx_Wd D (fun q => s.heap.size ≤ q) s.heap [(qx, .inr (7, [.null, .null, .int 0, .null, .null, .null, .null, .null, .null]))] H _ := hW
  refine lv_dup hx hb (by decide +kernel) rfl ?_
  refine k_ctor (as := []) (rest := [.ref qx]) (wr := []) (ci_X7 qx) [0] [] X lkc_X7 rfl rfl wq_103 wq_104 wq_85 rfl rfl (by decide) (by decide) (by decide) rfl (Nat.le_of_ble_eq_true rfl) ⟨Nat.le_of_ble_eq_true rfl, Nat.le_of_ble_eq_true rfl⟩ ⟨Nat.le_of_ble_eq_true rfl, Nat.le_of_ble_eq_true rfl⟩ hl.1 (by decide +kernel) hW (fun u H locs hW => ?_)
  have hW : cx_Wd D (fun q => s.heap.size ≤ q) s.heap [(qx, .inr (7, [.ref (u.getD 0 0), .ref (u.getD 19 0), .int 0, .ref (u.getD 38 0), .ref (u.getD 40 0), .ref (u.getD 53 0), .ref (u.getD 54 0), .ref (u.getD 59 0), .ref (u.getD 62 0)])), ((u.getD 0 0), .inr (0, [.ref ((u.getD 1 0)), .ref ((u.getD 3 0)), .ref ((u.getD 5 0)), .ref ((u.getD 7 0)), .ref ((u.getD 9 0)), .ref ((u.getD 11 0)), .ref ((u.getD 13 0)), .ref ((u.getD 15 0)), .ref ((u.getD 17 0)), .int 1])), ((u.getD 1 0), .inr (1, [.ref ((u.getD 2 0)), .int 7])), ((u.getD 2 0), .inl (tc 0, 7, .inl px_w0)), ((u.getD 3 0), .inr (1, [.ref ((u.getD 4 0)), .int 0])), ((u.getD 4 0), .inl (tc 0, 6, .inl (fun _ => 0))), ((u.getD 5 0), .inr (1, [.ref ((u.getD 6 0)), .int 0])), ((u.getD 6 0), .inl (tc 0, 6, .inl (fun _ => 0))), ((u.getD 7 0), .inr (1, [.ref ((u.getD 8 0)), .int 0])), ((u.getD 8 0), .inl (tc 0, 6, .inl (fun _ => 0))), ((u.getD 9 0), .inr (1, [.ref ((u.getD 10 0)), .int 0])), ((u.getD 10 0), .inl (tc 0, 6, .inl (fun _ => 0))), ((u.getD 11 0), .inr (1, [.ref ((u.getD 12 0)), .int 0])), ((u.getD 12 0), .inl (tc 0, 60, .inl (fun _ => 0))), ((u.getD 13 0), .inr (1, [.ref ((u.getD 14 0)), .int 0])), ((u.getD 14 0), .inl (tc 0, 60, .inl (fun _ => 0))), ((u.getD 15 0), .inr (1, [.ref ((u.getD 16 0)), .int 0])), ((u.getD 16 0), .inl (tc 0, 60, .inl (fun _ => 0))), ((u.getD 17 0), .inr (1, [.ref ((u.getD 18 0)), .int 0])), ((u.getD 18 0), .inl (tc 0, 24, .inl (fun _ => 0))), ((u.getD 19 0), .inr (0, [.ref ((u.getD 20 0)), .ref ((u.getD 22 0)), .ref ((u.getD 24 0)), .ref ((u.getD 26 0)), .ref ((u.getD 28 0)), .ref ((u.getD 30 0)), .ref ((u.getD 32 0)), .ref ((u.getD 34 0)), .ref ((u.getD 36 0)), .int 1])), ((u.getD 20 0), .inr (1, [.ref ((u.getD 21 0)), .int 7])), ((u.getD 21 0), .inl (tc 0, 7, .inl px_w0)), ((u.getD 22 0), .inr (1, [.ref ((u.getD 23 0)), .int 0])), ((u.getD 23 0), .inl (tc 0, 6, .inl (fun _ => 0))), ((u.getD 24 0), .inr (1, [.ref ((u.getD 25 0)), .int 0])), ((u.getD 25 0), .inl (tc 0, 6, .inl (fun _ => 0))), ((u.getD 26 0), .inr (1, [.ref ((u.getD 27 0)), .int 0])), ((u.getD 27 0), .inl (tc 0, 6, .inl (fun _ => 0))), ((u.getD 28 0), .inr (1, [.ref ((u.getD 29 0)), .int 0])), ((u.getD 29 0), .inl (tc 0, 6, .inl (fun _ => 0))), ((u.getD 30 0), .inr (1, [.ref ((u.getD 31 0)), .int 0])), ((u.getD 31 0), .inl (tc 0, 60, .inl (fun _ => 0))), ((u.getD 32 0), .inr (1, [.ref ((u.getD 33 0)), .int 0])), ((u.getD 33 0), .inl (tc 0, 60, .inl (fun _ => 0))), ((u.getD 34 0), .inr (1, [.ref ((u.getD 35 0)), .int 0])), ((u.getD 35 0), .inl (tc 0, 60, .inl (fun _ => 0))), ((u.getD 36 0), .inr (1, [.ref ((u.getD 37 0)), .int 0])), ((u.getD 37 0), .inl (tc 0, 24, .inl (fun _ => 0))), ((u.getD 38 0), .inr (1, [.ref ((u.getD 39 0)), .int 7])), ((u.getD 39 0), .inl (tc 0, 7, .inl (fun _ => 0))), ((u.getD 40 0), .inl (tc 1, 4, .inr (.inr (.inr (.inr (va_up (va_up (va_up (va_up (fun _ => none) 0 (some ((u.getD 41 0)))) 1 (some ((u.getD 44 0)))) 2 (some ((u.getD 47 0)))) 3 (some ((u.getD 50 0))))))))), ((u.getD 41 0), .inr (5, [.ref (u.getD 42 0), .int 0])), ((u.getD 42 0), .inr (1, [.ref ((u.getD 43 0)), .int 0])), ((u.getD 43 0), .inl (tc 0, 24, .inl (fun _ => 0))), ((u.getD 44 0), .inr (5, [.ref (u.getD 45 0), .int 0])), ((u.getD 45 0), .inr (1, [.ref ((u.getD 46 0)), .int 0])), ((u.getD 46 0), .inl (tc 0, 24, .inl (fun _ => 0))), ((u.getD 47 0), .inr (5, [.ref (u.getD 48 0), .int 0])), ((u.getD 48 0), .inr (1, [.ref ((u.getD 49 0)), .int 0])), ((u.getD 49 0), .inl (tc 0, 24, .inl (fun _ => 0))), ((u.getD 50 0), .inr (5, [.ref (u.getD 51 0), .int 0])), ((u.getD 51 0), .inr (1, [.ref ((u.getD 52 0)), .int 0])), ((u.getD 52 0), .inl (tc 0, 24, .inl (fun _ => 0))), ((u.getD 53 0), .inr (4, [.int 0, .int 0, .int 0, .int 0, .int 0, .int 0, .int 0, .int 0, .int 0])), ((u.getD 54 0), .inr (2, [.ref (u.getD 55 0), .ref (u.getD 57 0), .int 0, .int 0, .int 0])), ((u.getD 55 0), .inr (1, [.ref ((u.getD 56 0)), .int 0])), ((u.getD 56 0), .inl (tc 0, 60, .inl (fun _ => 0))), ((u.getD 57 0), .inr (1, [.ref ((u.getD 58 0)), .int 0])), ((u.getD 58 0), .inl (tc 0, 60, .inl (fun _ => 0))), ((u.getD 59 0), .inr (3, [.ref (u.getD 60 0)])), ((u.getD 60 0), .inr (1, [.ref ((u.getD 61 0)), .int 0])), ((u.getD 61 0), .inl (tc 0, 60, .inl (fun _ => 0))), ((u.getD 62 0), .inr (6, [.ref (u.getD 63 0), .int 0, .int 0, .int 0])), ((u.getD 63 0), .inr (1, [.ref ((u.getD 64 0)), .int 0])), ((u.getD 64 0), .inl (tc 0, 30, .inl (fun _ => 0)))] H _ := hW
  refine lv_astore_n (k := 1) (i := 1) (lv' := [(1, .ref qx), (0, .ref b)]) hx hb (by decide +kernel) rfl hl (by decide) rfl (fun ls hl => ?_)
  refine k_new (ci := 8) (fs := [.null, .null, .int 0, .null, .null, .null, .int 0, .int 0, .int 0, .int 0, .null, .null, .null, .null, .null, .int 0, .int 0, .null, .int 0, .int 0, .null, .null, .null, .null]) tyX8 X rfl inw_8 tyX8_ok wq_893 wq_894 wq_94 (fun j hj => by rcases (show j = 0 ∨ j = 1 ∨ j = 2 ∨ j = 3 ∨ j = 4 ∨ j = 5 ∨ j = 6 ∨ j = 7 ∨ j = 8 ∨ j = 9 ∨ j = 10 ∨ j = 11 ∨ j = 12 ∨ j = 13 ∨ j = 14 ∨ j = 15 ∨ j = 16 ∨ j = 17 ∨ j = 18 ∨ j = 19 ∨ j = 20 ∨ j = 21 ∨ j = 22 ∨ j = 23 by omega) with rfl | rfl | rfl | rfl | rfl | rfl | rfl | rfl | rfl | rfl | rfl | rfl | rfl | rfl | rfl | rfl | rfl | rfl | rfl | rfl | rfl | rfl | rfl | rfl <;> rfl) (Nat.le_of_ble_eq_true rfl) (Nat.le_of_ble_eq_true rfl) (by decide +kernel) hW (fun qm H hW => ?_)
  have hW : cx_Wd D (fun q => s.heap.size ≤ q) s.heap ([(qx, .inr (7, [.ref (u.getD 0 0), .ref (u.getD 19 0), .int 0, .ref (u.getD 38 0), .ref (u.getD 40 0), .ref (u.getD 53 0), .ref (u.getD 54 0), .ref (u.getD 59 0), .ref (u.getD 62 0)])), ((u.getD 0 0), .inr (0, [.ref ((u.getD 1 0)), .ref ((u.getD 3 0)), .ref ((u.getD 5 0)), .ref ((u.getD 7 0)), .ref ((u.getD 9 0)), .ref ((u.getD 11 0)), .ref ((u.getD 13 0)), .ref ((u.getD 15 0)), .ref ((u.getD 17 0)), .int 1])), ((u.getD 1 0), .inr (1, [.ref ((u.getD 2 0)), .int 7])), ((u.getD 2 0), .inl (tc 0, 7, .inl px_w0)), ((u.getD 3 0), .inr (1, [.ref ((u.getD 4 0)), .int 0])), ((u.getD 4 0), .inl (tc 0, 6, .inl (fun _ => 0))), ((u.getD 5 0), .inr (1, [.ref ((u.getD 6 0)), .int 0])), ((u.getD 6 0), .inl (tc 0, 6, .inl (fun _ => 0))), ((u.getD 7 0), .inr (1, [.ref ((u.getD 8 0)), .int 0])), ((u.getD 8 0), .inl (tc 0, 6, .inl (fun _ => 0))), ((u.getD 9 0), .inr (1, [.ref ((u.getD 10 0)), .int 0])), ((u.getD 10 0), .inl (tc 0, 6, .inl (fun _ => 0))), ((u.getD 11 0), .inr (1, [.ref ((u.getD 12 0)), .int 0])), ((u.getD 12 0), .inl (tc 0, 60, .inl (fun _ => 0))), ((u.getD 13 0), .inr (1, [.ref ((u.getD 14 0)), .int 0])), ((u.getD 14 0), .inl (tc 0, 60, .inl (fun _ => 0))), ((u.getD 15 0), .inr (1, [.ref ((u.getD 16 0)), .int 0])), ((u.getD 16 0), .inl (tc 0, 60, .inl (fun _ => 0))), ((u.getD 17 0), .inr (1, [.ref ((u.getD 18 0)), .int 0])), ((u.getD 18 0), .inl (tc 0, 24, .inl (fun _ => 0))), ((u.getD 19 0), .inr (0, [.ref ((u.getD 20 0)), .ref ((u.getD 22 0)), .ref ((u.getD 24 0)), .ref ((u.getD 26 0)), .ref ((u.getD 28 0)), .ref ((u.getD 30 0)), .ref ((u.getD 32 0)), .ref ((u.getD 34 0)), .ref ((u.getD 36 0)), .int 1])), ((u.getD 20 0), .inr (1, [.ref ((u.getD 21 0)), .int 7])), ((u.getD 21 0), .inl (tc 0, 7, .inl px_w0)), ((u.getD 22 0), .inr (1, [.ref ((u.getD 23 0)), .int 0])), ((u.getD 23 0), .inl (tc 0, 6, .inl (fun _ => 0))), ((u.getD 24 0), .inr (1, [.ref ((u.getD 25 0)), .int 0])), ((u.getD 25 0), .inl (tc 0, 6, .inl (fun _ => 0))), ((u.getD 26 0), .inr (1, [.ref ((u.getD 27 0)), .int 0])), ((u.getD 27 0), .inl (tc 0, 6, .inl (fun _ => 0))), ((u.getD 28 0), .inr (1, [.ref ((u.getD 29 0)), .int 0])), ((u.getD 29 0), .inl (tc 0, 6, .inl (fun _ => 0))), ((u.getD 30 0), .inr (1, [.ref ((u.getD 31 0)), .int 0])), ((u.getD 31 0), .inl (tc 0, 60, .inl (fun _ => 0))), ((u.getD 32 0), .inr (1, [.ref ((u.getD 33 0)), .int 0])), ((u.getD 33 0), .inl (tc 0, 60, .inl (fun _ => 0))), ((u.getD 34 0), .inr (1, [.ref ((u.getD 35 0)), .int 0])), ((u.getD 35 0), .inl (tc 0, 60, .inl (fun _ => 0))), ((u.getD 36 0), .inr (1, [.ref ((u.getD 37 0)), .int 0])), ((u.getD 37 0), .inl (tc 0, 24, .inl (fun _ => 0))), ((u.getD 38 0), .inr (1, [.ref ((u.getD 39 0)), .int 7])), ((u.getD 39 0), .inl (tc 0, 7, .inl (fun _ => 0))), ((u.getD 40 0), .inl (tc 1, 4, .inr (.inr (.inr (.inr (va_up (va_up (va_up (va_up (fun _ => none) 0 (some ((u.getD 41 0)))) 1 (some ((u.getD 44 0)))) 2 (some ((u.getD 47 0)))) 3 (some ((u.getD 50 0))))))))), ((u.getD 41 0), .inr (5, [.ref (u.getD 42 0), .int 0])), ((u.getD 42 0), .inr (1, [.ref ((u.getD 43 0)), .int 0])), ((u.getD 43 0), .inl (tc 0, 24, .inl (fun _ => 0))), ((u.getD 44 0), .inr (5, [.ref (u.getD 45 0), .int 0])), ((u.getD 45 0), .inr (1, [.ref ((u.getD 46 0)), .int 0])), ((u.getD 46 0), .inl (tc 0, 24, .inl (fun _ => 0))), ((u.getD 47 0), .inr (5, [.ref (u.getD 48 0), .int 0])), ((u.getD 48 0), .inr (1, [.ref ((u.getD 49 0)), .int 0])), ((u.getD 49 0), .inl (tc 0, 24, .inl (fun _ => 0))), ((u.getD 50 0), .inr (5, [.ref (u.getD 51 0), .int 0])), ((u.getD 51 0), .inr (1, [.ref ((u.getD 52 0)), .int 0])), ((u.getD 52 0), .inl (tc 0, 24, .inl (fun _ => 0))), ((u.getD 53 0), .inr (4, [.int 0, .int 0, .int 0, .int 0, .int 0, .int 0, .int 0, .int 0, .int 0])), ((u.getD 54 0), .inr (2, [.ref (u.getD 55 0), .ref (u.getD 57 0), .int 0, .int 0, .int 0])), ((u.getD 55 0), .inr (1, [.ref ((u.getD 56 0)), .int 0])), ((u.getD 56 0), .inl (tc 0, 60, .inl (fun _ => 0))), ((u.getD 57 0), .inr (1, [.ref ((u.getD 58 0)), .int 0])), ((u.getD 58 0), .inl (tc 0, 60, .inl (fun _ => 0))), ((u.getD 59 0), .inr (3, [.ref (u.getD 60 0)])), ((u.getD 60 0), .inr (1, [.ref ((u.getD 61 0)), .int 0])), ((u.getD 61 0), .inl (tc 0, 60, .inl (fun _ => 0))), ((u.getD 62 0), .inr (6, [.ref (u.getD 63 0), .int 0, .int 0, .int 0])), ((u.getD 63 0), .inr (1, [.ref ((u.getD 64 0)), .int 0])), ((u.getD 64 0), .inl (tc 0, 30, .inl (fun _ => 0)))] ++ [(qm, .inr (8, [.null, .null, .int 0, .null, .null, .null, .int 0, .int 0, .int 0, .int 0, .null, .null, .null, .null, .null, .int 0, .int 0, .null, .int 0, .int 0, .null, .null, .null, .null]))]) H _ := hW
  refine lv_dup hx hb (by decide +kernel) rfl ?_
  refine k_ctor (as := []) (rest := [.ref qm]) (wr := [(qx, .inr (7, [.ref (u.getD 0 0), .ref (u.getD 19 0), .int 0, .ref (u.getD 38 0), .ref (u.getD 40 0), .ref (u.getD 53 0), .ref (u.getD 54 0), .ref (u.getD 59 0), .ref (u.getD 62 0)])), ((u.getD 0 0), .inr (0, [.ref ((u.getD 1 0)), .ref ((u.getD 3 0)), .ref ((u.getD 5 0)), .ref ((u.getD 7 0)), .ref ((u.getD 9 0)), .ref ((u.getD 11 0)), .ref ((u.getD 13 0)), .ref ((u.getD 15 0)), .ref ((u.getD 17 0)), .int 1])), ((u.getD 1 0), .inr (1, [.ref ((u.getD 2 0)), .int 7])), ((u.getD 2 0), .inl (tc 0, 7, .inl px_w0)), ((u.getD 3 0), .inr (1, [.ref ((u.getD 4 0)), .int 0])), ((u.getD 4 0), .inl (tc 0, 6, .inl (fun _ => 0))), ((u.getD 5 0), .inr (1, [.ref ((u.getD 6 0)), .int 0])), ((u.getD 6 0), .inl (tc 0, 6, .inl (fun _ => 0))), ((u.getD 7 0), .inr (1, [.ref ((u.getD 8 0)), .int 0])), ((u.getD 8 0), .inl (tc 0, 6, .inl (fun _ => 0))), ((u.getD 9 0), .inr (1, [.ref ((u.getD 10 0)), .int 0])), ((u.getD 10 0), .inl (tc 0, 6, .inl (fun _ => 0))), ((u.getD 11 0), .inr (1, [.ref ((u.getD 12 0)), .int 0])), ((u.getD 12 0), .inl (tc 0, 60, .inl (fun _ => 0))), ((u.getD 13 0), .inr (1, [.ref ((u.getD 14 0)), .int 0])), ((u.getD 14 0), .inl (tc 0, 60, .inl (fun _ => 0))), ((u.getD 15 0), .inr (1, [.ref ((u.getD 16 0)), .int 0])), ((u.getD 16 0), .inl (tc 0, 60, .inl (fun _ => 0))), ((u.getD 17 0), .inr (1, [.ref ((u.getD 18 0)), .int 0])), ((u.getD 18 0), .inl (tc 0, 24, .inl (fun _ => 0))), ((u.getD 19 0), .inr (0, [.ref ((u.getD 20 0)), .ref ((u.getD 22 0)), .ref ((u.getD 24 0)), .ref ((u.getD 26 0)), .ref ((u.getD 28 0)), .ref ((u.getD 30 0)), .ref ((u.getD 32 0)), .ref ((u.getD 34 0)), .ref ((u.getD 36 0)), .int 1])), ((u.getD 20 0), .inr (1, [.ref ((u.getD 21 0)), .int 7])), ((u.getD 21 0), .inl (tc 0, 7, .inl px_w0)), ((u.getD 22 0), .inr (1, [.ref ((u.getD 23 0)), .int 0])), ((u.getD 23 0), .inl (tc 0, 6, .inl (fun _ => 0))), ((u.getD 24 0), .inr (1, [.ref ((u.getD 25 0)), .int 0])), ((u.getD 25 0), .inl (tc 0, 6, .inl (fun _ => 0))), ((u.getD 26 0), .inr (1, [.ref ((u.getD 27 0)), .int 0])), ((u.getD 27 0), .inl (tc 0, 6, .inl (fun _ => 0))), ((u.getD 28 0), .inr (1, [.ref ((u.getD 29 0)), .int 0])), ((u.getD 29 0), .inl (tc 0, 6, .inl (fun _ => 0))), ((u.getD 30 0), .inr (1, [.ref ((u.getD 31 0)), .int 0])), ((u.getD 31 0), .inl (tc 0, 60, .inl (fun _ => 0))), ((u.getD 32 0), .inr (1, [.ref ((u.getD 33 0)), .int 0])), ((u.getD 33 0), .inl (tc 0, 60, .inl (fun _ => 0))), ((u.getD 34 0), .inr (1, [.ref ((u.getD 35 0)), .int 0])), ((u.getD 35 0), .inl (tc 0, 60, .inl (fun _ => 0))), ((u.getD 36 0), .inr (1, [.ref ((u.getD 37 0)), .int 0])), ((u.getD 37 0), .inl (tc 0, 24, .inl (fun _ => 0))), ((u.getD 38 0), .inr (1, [.ref ((u.getD 39 0)), .int 7])), ((u.getD 39 0), .inl (tc 0, 7, .inl (fun _ => 0))), ((u.getD 40 0), .inl (tc 1, 4, .inr (.inr (.inr (.inr (va_up (va_up (va_up (va_up (fun _ => none) 0 (some ((u.getD 41 0)))) 1 (some ((u.getD 44 0)))) 2 (some ((u.getD 47 0)))) 3 (some ((u.getD 50 0))))))))), ((u.getD 41 0), .inr (5, [.ref (u.getD 42 0), .int 0])), ((u.getD 42 0), .inr (1, [.ref ((u.getD 43 0)), .int 0])), ((u.getD 43 0), .inl (tc 0, 24, .inl (fun _ => 0))), ((u.getD 44 0), .inr (5, [.ref (u.getD 45 0), .int 0])), ((u.getD 45 0), .inr (1, [.ref ((u.getD 46 0)), .int 0])), ((u.getD 46 0), .inl (tc 0, 24, .inl (fun _ => 0))), ((u.getD 47 0), .inr (5, [.ref (u.getD 48 0), .int 0])), ((u.getD 48 0), .inr (1, [.ref ((u.getD 49 0)), .int 0])), ((u.getD 49 0), .inl (tc 0, 24, .inl (fun _ => 0))), ((u.getD 50 0), .inr (5, [.ref (u.getD 51 0), .int 0])), ((u.getD 51 0), .inr (1, [.ref ((u.getD 52 0)), .int 0])), ((u.getD 52 0), .inl (tc 0, 24, .inl (fun _ => 0))), ((u.getD 53 0), .inr (4, [.int 0, .int 0, .int 0, .int 0, .int 0, .int 0, .int 0, .int 0, .int 0])), ((u.getD 54 0), .inr (2, [.ref (u.getD 55 0), .ref (u.getD 57 0), .int 0, .int 0, .int 0])), ((u.getD 55 0), .inr (1, [.ref ((u.getD 56 0)), .int 0])), ((u.getD 56 0), .inl (tc 0, 60, .inl (fun _ => 0))), ((u.getD 57 0), .inr (1, [.ref ((u.getD 58 0)), .int 0])), ((u.getD 58 0), .inl (tc 0, 60, .inl (fun _ => 0))), ((u.getD 59 0), .inr (3, [.ref (u.getD 60 0)])), ((u.getD 60 0), .inr (1, [.ref ((u.getD 61 0)), .int 0])), ((u.getD 61 0), .inl (tc 0, 60, .inl (fun _ => 0))), ((u.getD 62 0), .inr (6, [.ref (u.getD 63 0), .int 0, .int 0, .int 0])), ((u.getD 63 0), .inr (1, [.ref ((u.getD 64 0)), .int 0])), ((u.getD 64 0), .inl (tc 0, 30, .inl (fun _ => 0)))]) (ci_X8 qm) [66] (List.range 66) X lkc_X8 rfl rfl wq_895 wq_896 wq_94 rfl rfl (by decide) (by decide) (by decide) rfl (Nat.le_of_ble_eq_true rfl) ⟨Nat.le_of_ble_eq_true rfl, Nat.le_of_ble_eq_true rfl⟩ ⟨Nat.le_of_ble_eq_true rfl, Nat.le_of_ble_eq_true rfl⟩ hl.1 (by decide +kernel) hW (fun v H locs hW => ?_)
  refine lv_astore_n (k := 2) (i := 2) (lv' := [(2, .ref qm), (1, .ref qx), (0, .ref b)]) hx hb (by decide +kernel) rfl hl (by decide) rfl (fun ls hl => ?_)
  obtain ⟨ad, had⟩ : ∃ ad : Nat → Nat, ad = fun k => cond (Nat.blt k 1000) (cond (Nat.beq k 0) qx (u.getD (k - 1) 0)) (cond (Nat.blt k 2000) (cond (Nat.beq k 1000) qm (v.getD (k - 1001) 0)) (adc k)) := ⟨_, rfl⟩
  have e1 : (fun j => (px_sh j).map ad) = va_up (va_up (va_up (va_up (fun _ => (none : Option Nat)) 0 (some (u.getD 41 0))) 1 (some (u.getD 44 0))) 2 (some (u.getD 47 0))) 3 (some (u.getD 50 0)) := by rw [px_sh_ad, had]; rfl
  have hWd : px_Wd D tc ad (fun q => s.heap.size ≤ q) s.heap (px_C0, px_M0) H locs := by
    have e2 : px_ws tc ad (px_C0, px_M0) = [(qx, .inr (7, [.ref (u.getD 0 0), .ref (u.getD 19 0), .int 0, .ref (u.getD 38 0), .ref (u.getD 40 0), .ref (u.getD 53 0), .ref (u.getD 54 0), .ref (u.getD 59 0), .ref (u.getD 62 0)])), ((u.getD 0 0), .inr (0, [.ref ((u.getD 1 0)), .ref ((u.getD 3 0)), .ref ((u.getD 5 0)), .ref ((u.getD 7 0)), .ref ((u.getD 9 0)), .ref ((u.getD 11 0)), .ref ((u.getD 13 0)), .ref ((u.getD 15 0)), .ref ((u.getD 17 0)), .int 1])), ((u.getD 1 0), .inr (1, [.ref ((u.getD 2 0)), .int 7])), ((u.getD 2 0), .inl (tc 0, 7, .inl px_w0)), ((u.getD 3 0), .inr (1, [.ref ((u.getD 4 0)), .int 0])), ((u.getD 4 0), .inl (tc 0, 6, .inl (fun _ => 0))), ((u.getD 5 0), .inr (1, [.ref ((u.getD 6 0)), .int 0])), ((u.getD 6 0), .inl (tc 0, 6, .inl (fun _ => 0))), ((u.getD 7 0), .inr (1, [.ref ((u.getD 8 0)), .int 0])), ((u.getD 8 0), .inl (tc 0, 6, .inl (fun _ => 0))), ((u.getD 9 0), .inr (1, [.ref ((u.getD 10 0)), .int 0])), ((u.getD 10 0), .inl (tc 0, 6, .inl (fun _ => 0))), ((u.getD 11 0), .inr (1, [.ref ((u.getD 12 0)), .int 0])), ((u.getD 12 0), .inl (tc 0, 60, .inl (fun _ => 0))), ((u.getD 13 0), .inr (1, [.ref ((u.getD 14 0)), .int 0])), ((u.getD 14 0), .inl (tc 0, 60, .inl (fun _ => 0))), ((u.getD 15 0), .inr (1, [.ref ((u.getD 16 0)), .int 0])), ((u.getD 16 0), .inl (tc 0, 60, .inl (fun _ => 0))), ((u.getD 17 0), .inr (1, [.ref ((u.getD 18 0)), .int 0])), ((u.getD 18 0), .inl (tc 0, 24, .inl (fun _ => 0))), ((u.getD 19 0), .inr (0, [.ref ((u.getD 20 0)), .ref ((u.getD 22 0)), .ref ((u.getD 24 0)), .ref ((u.getD 26 0)), .ref ((u.getD 28 0)), .ref ((u.getD 30 0)), .ref ((u.getD 32 0)), .ref ((u.getD 34 0)), .ref ((u.getD 36 0)), .int 1])), ((u.getD 20 0), .inr (1, [.ref ((u.getD 21 0)), .int 7])), ((u.getD 21 0), .inl (tc 0, 7, .inl px_w0)), ((u.getD 22 0), .inr (1, [.ref ((u.getD 23 0)), .int 0])), ((u.getD 23 0), .inl (tc 0, 6, .inl (fun _ => 0))), ((u.getD 24 0), .inr (1, [.ref ((u.getD 25 0)), .int 0])), ((u.getD 25 0), .inl (tc 0, 6, .inl (fun _ => 0))), ((u.getD 26 0), .inr (1, [.ref ((u.getD 27 0)), .int 0])), ((u.getD 27 0), .inl (tc 0, 6, .inl (fun _ => 0))), ((u.getD 28 0), .inr (1, [.ref ((u.getD 29 0)), .int 0])), ((u.getD 29 0), .inl (tc 0, 6, .inl (fun _ => 0))), ((u.getD 30 0), .inr (1, [.ref ((u.getD 31 0)), .int 0])), ((u.getD 31 0), .inl (tc 0, 60, .inl (fun _ => 0))), ((u.getD 32 0), .inr (1, [.ref ((u.getD 33 0)), .int 0])), ((u.getD 33 0), .inl (tc 0, 60, .inl (fun _ => 0))), ((u.getD 34 0), .inr (1, [.ref ((u.getD 35 0)), .int 0])), ((u.getD 35 0), .inl (tc 0, 60, .inl (fun _ => 0))), ((u.getD 36 0), .inr (1, [.ref ((u.getD 37 0)), .int 0])), ((u.getD 37 0), .inl (tc 0, 24, .inl (fun _ => 0))), ((u.getD 38 0), .inr (1, [.ref ((u.getD 39 0)), .int 7])), ((u.getD 39 0), .inl (tc 0, 7, .inl (fun _ => 0))), ((u.getD 40 0), .inl (tc 1, 4, .inr (.inr (.inr (.inr (va_up (va_up (va_up (va_up (fun _ => none) 0 (some ((u.getD 41 0)))) 1 (some ((u.getD 44 0)))) 2 (some ((u.getD 47 0)))) 3 (some ((u.getD 50 0))))))))), ((u.getD 41 0), .inr (5, [.ref (u.getD 42 0), .int 0])), ((u.getD 42 0), .inr (1, [.ref ((u.getD 43 0)), .int 0])), ((u.getD 43 0), .inl (tc 0, 24, .inl (fun _ => 0))), ((u.getD 44 0), .inr (5, [.ref (u.getD 45 0), .int 0])), ((u.getD 45 0), .inr (1, [.ref ((u.getD 46 0)), .int 0])), ((u.getD 46 0), .inl (tc 0, 24, .inl (fun _ => 0))), ((u.getD 47 0), .inr (5, [.ref (u.getD 48 0), .int 0])), ((u.getD 48 0), .inr (1, [.ref ((u.getD 49 0)), .int 0])), ((u.getD 49 0), .inl (tc 0, 24, .inl (fun _ => 0))), ((u.getD 50 0), .inr (5, [.ref (u.getD 51 0), .int 0])), ((u.getD 51 0), .inr (1, [.ref ((u.getD 52 0)), .int 0])), ((u.getD 52 0), .inl (tc 0, 24, .inl (fun _ => 0))), ((u.getD 53 0), .inr (4, [.int 0, .int 0, .int 0, .int 0, .int 0, .int 0, .int 0, .int 0, .int 0])), ((u.getD 54 0), .inr (2, [.ref (u.getD 55 0), .ref (u.getD 57 0), .int 0, .int 0, .int 0])), ((u.getD 55 0), .inr (1, [.ref ((u.getD 56 0)), .int 0])), ((u.getD 56 0), .inl (tc 0, 60, .inl (fun _ => 0))), ((u.getD 57 0), .inr (1, [.ref ((u.getD 58 0)), .int 0])), ((u.getD 58 0), .inl (tc 0, 60, .inl (fun _ => 0))), ((u.getD 59 0), .inr (3, [.ref (u.getD 60 0)])), ((u.getD 60 0), .inr (1, [.ref ((u.getD 61 0)), .int 0])), ((u.getD 61 0), .inl (tc 0, 60, .inl (fun _ => 0))), ((u.getD 62 0), .inr (6, [.ref (u.getD 63 0), .int 0, .int 0, .int 0])), ((u.getD 63 0), .inr (1, [.ref ((u.getD 64 0)), .int 0])), ((u.getD 64 0), .inl (tc 0, 30, .inl (fun _ => 0)))] ++ [(qm, .inr (8, [.ref ((v.getD 0 0)), .ref ((v.getD 1 0)), .int 0, .ref ((v.getD 2 0)), .ref ((v.getD 3 0)), .ref ((v.getD 4 0)), .int 0, .int 0, .int 0, .int 0, .ref ((v.getD 5 0)), .ref ((v.getD 6 0)), .ref ((v.getD 7 0)), .ref ((v.getD 8 0)), .ref ((v.getD 9 0)), .int 0, .int 0, .ref ((v.getD 10 0)), .int 0, .int 0, .ref ((v.getD 11 0)), .ref ((v.getD 12 0)), .ref ((v.getD 13 0)), .ref ((v.getD 14 0))])), ((v.getD 0 0), .inl (tc 0, 370, .inl px_s0)), ((v.getD 1 0), .inl (tc 0, 370, .inl (fun _ => 0))), ((v.getD 2 0), .inl (tc 0, 7, .inl (fun _ => 0))), ((v.getD 3 0), .inl (tc 0, 6, .inl px_K0)), ((v.getD 4 0), .inl (tc 0, 6, .inl px_K1)), ((v.getD 5 0), .inl (tc 0, 124, .inl (fun _ => 0))), ((v.getD 6 0), .inl (tc 0, 128, .inl (fun _ => 0))), ((v.getD 7 0), .inl (tc 0, 64, .inl (fun _ => 0))), ((v.getD 8 0), .inl (tc 0, 100, .inl (fun _ => 0))), ((v.getD 9 0), .inl (tc 0, 100, .inl (fun _ => 0))), ((v.getD 10 0), .inl (tc 0, 30, .inl (fun _ => 0))), ((v.getD 11 0), .inl (tc 0, 4, .inl (fun _ => 0))), ((v.getD 12 0), .inl (tc 0, 4, .inl (fun _ => 0))), ((v.getD 13 0), .inl (tc 0, 96, .inl (fun _ => 0))), ((v.getD 14 0), .inl (tc 0, 24, .inl (fun _ => 0)))] := by
      rw [← e1, had]
      rfl
    show cx_Wd D (fun q => s.heap.size ≤ q) s.heap (px_ws tc ad (px_C0, px_M0)) H locs
    rw [e2]
    exact hW
  have hl2 : lv_has ls 4 (px_ml ad [(2, .ref 1000), (1, .ref 0), (0, .ref 3004)]) := by
    have e3 : px_ml ad [(2, .ref 1000), (1, .ref 0), (0, .ref 3004)] = [(2, .ref qm), (1, .ref qx), (0, .ref b)] := by
      rw [← hadb, had]
      rfl
    rw [e3]
    exact hl
  have hKC2 : px_KC ad (fun q => s.heap.size ≤ q) s s.heap := by
    rw [had]
    exact hKC
  have X2 : px_X "FromTheMiddleLaw" code 4 p room_1 s m #[Value.ref b] c 600000 7302250 (fun q => s.heap.size ≤ q) ad D tc := ⟨hx, hb, hml, hown, hws, hK, Nat.le_of_ble_eq_true rfl, Nat.le_of_ble_eq_true rfl, Nat.le_of_ble_eq_true rfl, Nat.le_of_ble_eq_true rfl, hKC2, hA⟩
  have E2 : px_E L xs s (fun q => s.heap.size ≤ q) ad := by
    have e4 : ad 3004 = b := by rw [had]; exact hadb
    unfold px_E
    rw [e4]
    exact ⟨hX, hbl, Nat.not_le.mpr hbl⟩
  have CB : px_cbok px_mm l room_1 D tc ad (px_run px_codes 60 nf) := ⟨px_rm 60, Nat.le_of_ble_eq_true rfl, Nat.le_of_ble_eq_true rfl, rfl, rfl, px_sound px_codes_ok l D tc ad 60 nf⟩
  refine W.widen (k := 600000) (n := 7302250) (Nat.le_of_ble_eq_true rfl) (Nat.le_of_ble_eq_true rfl) ?_
  refine px_loopWE (kt_L L xs) X2 E2 CB nf 16 _ [] (px_C0, px_M0) hpure H locs ls hWd hl2 (fun pcr H' locs' ls' st' hW' hend => ?_)
  rcases hend with ⟨x, ty, e1, rfl, -, -, hdg⟩ | ⟨x, n', e1, rfl, h3, -, -⟩ | ⟨e1, -, -, -⟩
  · have e5 : (1 : Int32) = x := by cases e1; rfl
    subst e5
    exact va_forget (fun q hq => hW'.2.2.2.2 q hq) (lw_ret hx hb hr hlocks hdg)
  · cases e1
    rcases h3 with h3 | ⟨k, h3⟩ <;> cases h3
  · cases e1
set_option maxHeartbeats 4000000 in
theorem lw_walk (l : Launch) (hflags : l.flags = flags0) (b : Addr) (xs : List Int32) : MetFree l x (headSpec (Jvm.Cond.code x code maxLocals ret :: tables_1) room_1) (lw_P b xs) (fun _ _ _ _ _ => True) lw_Q := by
  refine MetFree.of_bodyS (code := code) (maxLocals := maxLocals) (ret := ret) (by decide) ?_ ?_
  · intro args s m h hn
    obtain ⟨meth, c, h1, h2, h3, h4, h5, h6, -, -⟩ := Cond.code_spec hn (atoms_spec (ws := Jvm.Cond.code x code maxLocals ret :: tables_1) h _ List.mem_cons_self)
    exact ⟨meth, c, h1, h2, h3, h4, h5, h6⟩
  · intro p e s m args below meth c s₁ B hml0 hP _
    obtain ⟨rfl, hx, hbd, hgv⟩ := hP
    obtain ⟨scr, harrAt, hlist, hof, hsmall⟩ := hx
    obtain ⟨hcb, hkn, -, -⟩ := State.arrayAt?_spec harrAt
    have hown : s.vm.findClass R_law = some m.cls := findClass_of_methodNamed B.named
    have hts0 : ∀ c ∈ (Jvm.Cond.code x code maxLocals ret :: tables_1), c.before #[Value.ref b] s = true := atoms_spec (ws := Jvm.Cond.code x code maxLocals ret :: tables_1) B.pre
    have hts : ∀ w ∈ lw_tbl, w.before #[Value.ref b] s = true := k2_hts_sels lw_privs (fun w hw => hts0 w (List.mem_cons_of_mem _ hw)) lw_privs_ok
    have hml : c.maxLocals = 4 := B.maxLocals_eq (hts0 _ List.mem_cons_self)
    have X₀ : Stand p l e room_1 s m #[Value.ref b] below meth c s₁ [] 0 0 := Stand.of_body B
    have hh0 : s₁.heap = s.heap := by rw [B.state]; rfl
    have hsz : scr.slots.size = xs.length := by rw [← Array.length_toList, hlist, List.length_map]
    have hval : ∀ j : Nat, j < xs.length → scr.slots[j]? = some (.int (xs.getD j 0)) := fun j hj => by
      rw [← Array.getElem?_toList, hlist]
      simp [hj]
    have hbl : b < s.heap.size := (Array.getElem?_eq_some_iff.mp hcb).1
    have hX : va_X b xs.length (fun j => xs.getD j 0) s s.heap := ⟨scr, hcb, hof, hkn, hsz, hval⟩
    have K : W p l e room_1 s m #[Value.ref b] below meth c s₁.heap [] 0 0 (lw_Z below #[Value.ref b] s) (entryFrame m ([Value.ref b] : List Value).toArray 4) := by
      rw [hh0]
      exact whole_start l hflags hbd ⟨B.exec, B.bytes, B.returns, hml, hown, hts, hX, hbl, B.notSynchronized, hgv⟩
    obtain ⟨t, a1, o, b1, b2, b3⟩ := K s₁ rfl X₀
    exact ⟨t, o, a1, b1, b2, b3⟩
theorem lw_pre_spec {args : Array Value} {s : State} (h : (Jvm.Cond.and given_1 narrow_1).before args s = true) (hr : rest_1_c.before args s = true) : ∃ (b : Addr) (xs : List Int32), lw_P b xs args s := by
  have hs := flat_of_before _ h
  have hq := flat_of_before _ hr
  have hc : (Cond.count 1).before args s = true := hs _ (by decide +kernel)
  have harr : (Cond.arrayOf (.arg 0) .int).before args s = true := hs _ (by decide +kernel)
  have hle : (Cond.le (.length (.arg 0)) (.int 6)).before args s = true := hs _ (by decide +kernel)
  have hlen : (Cond.isInt (.length (.arg 0))).before args s = true := hq _ (by decide +kernel)
  have hall : (Cond.all (.arg 0) (.isInt (.elem (.arg 0) (.index 0)))).before args s = true := hq _ (by decide +kernel)
  obtain ⟨b, xs, hb, hx⟩ := State.ints_of_pre rfl harr hlen hall
  have hsm : xs.length < 2 ^ 31 := hx.choose_spec.2.2.2
  have hev : (Term.length (.arg 0)).eval args s none [] s = some (.int xs.length.toInt32) := hx.length_eval hb
  have hv := Cond.le_ints hev (show (Term.int 6).eval args s none [] s = some (.int 6) from rfl)
  have hd : xs.length.toInt32 ≤ 6 := by
    simpa [Cond.before, Cond.holds, hv] using hle
  have hN : xs.length ≤ 6 := (Int32.ofNat_le_ofNat hsm (by decide)).mp (show Int32.ofNat xs.length ≤ Int32.ofNat 6 from hd)
  exact ⟨b, xs, Cond.one_arg hc (show args[0]? = some (.ref b) from hb), hx, hN, h⟩
theorem lw_comes (l : Launch) (hflags : l.flags = flags0) : Comes l x (Jvm.Cond.code x code maxLocals ret :: tables_1) room_1 (fun tb e args s => Calls_1 tb e args s ∧ rest_1 tb e args s ∧ Pre_1 tb e args s)
    (fun _ _ args s o t => lw_Q args s o t) := by
  intro p e ha hc hk s m args below hf hfit hheap happ hpre
  obtain ⟨b, xs, hP⟩ := lw_pre_spec hpre.2.2 hpre.2.1
  obtain ⟨k, o, h1, h2, h3, hQ⟩ := lw_walk l hflags b xs p e ha hc hk s m args below hf ((Spec.applies_iff_loose hf).mp happ).1 hP trivial
  exact ⟨k, o, h1, h2, h3, hQ⟩
theorem lw_frame {s t : State} {o : Outcome} {args : Array Value} (h : Framed s o t [] 600000 7302250) :
    Framed s o t (fieldLocs frame_1_writes args s ++ arrayLocs frame_1_arrays args s ++ staticLocs frame_1_statics s) 600000 7302250 := h
theorem lw_limb (L : Cond) (hL : ∀ (args : Array Value) (s t : State), L.after args s (.returned (some (.int 1))) t = true) :
    ArmFor flags0 classFile x code maxLocals ret World_1 tables_1 room_1 Calls_1 rest_1 Pre_1
      (fun tb e a s o t => postC L tb e a s o t ∧ Framed s o t (fieldLocs frame_1_writes a s ++ arrayLocs frame_1_arrays a s ++ staticLocs frame_1_statics s) 600000 7302250) := by
  intro l hflags _ _ p e ha hc hk s m args below hf hfit hheap happ hpre
  obtain ⟨k, o, h1, h2, h3, rfl, hF⟩ := lw_comes l hflags p e ha hc hk s m args below hf hfit hheap happ hpre
  exact ⟨k, _, h1, h2, h3, hL args s _, lw_frame hF⟩
theorem i_vc : Claimed_1_1 ∧ Claimed_1_2 := ⟨lw_limb limb_1_1 (fun args s t => by simp [limb_1_1, Cond.after, Cond.holds, Cond.value]), lw_limb limb_1_2 (fun args s t => Cond.after_iff.mpr (by
  first | (rw [show limb_1_2 = Cond.eq .result (.int 1) from rfl, Cond.eq_ints (x := 1) (y := 1) rfl rfl]; simp; done) | (simp [limb_1_2, Cond.value, Term.eval]; done)))⟩

