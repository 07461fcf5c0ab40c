theorem px_sh_ad (ad : Nat → Nat) : (fun j => (px_sh j).map ad) = va_up (va_up (va_up (va_up (fun _ => (none : Option Nat)) 0 (some (ad 42))) 1 (some (ad 45))) 2 (some (ad 48))) 3 (some (ad 51)) := by
  funext j
  match j with
  | 0 => rfl
  | 1 => rfl
  | 2 => rfl
  | 3 => rfl
  | n + 4 => rfl
theorem px_ints (C n : String) {args : Array Value} {s : State} {A : Nat → Prop} (l : List Int32) (hA : ∀ a : Nat, a < s.heap.size → ¬ A a) (hl : l.length = 6) (hls : (Cond.laysStatic C n "[I").before args s = true) (hini : (Cond.initialized C).before args s = true) (h1 : (Cond.arrayOf (.static C n "[I") .int).before args s = true) (h2 : (Cond.eq (.length (.static C n "[I")) (.int 6)).before args s = true) (h3 : ∀ j : Nat, j < 6 → (Cond.eq (.elem (.static C n "[I") (.int (Int32.ofNat j))) (.int (l.getD j 0))).before args s = true) :
    ∃ t : Nat, va_Z C n "[I" (.ref t) A s s.heap ∧ va_T .int t 6 (fun j => .int (l.getD j 0)) A s s.heap := by
  obtain ⟨t, ht, hT⟩ := va_Tof (N := 6) (f := fun j => .int (l.getD j 0)) (A := A) (by decide) h1 (va_eqt h2) (fun j hj => va_eqt (h3 j hj)) hA
  exact ⟨t, va_Zof hls hini ht hA, hT⟩
theorem px_vkS_two {len : List Nat} {byt : List (List Int32)} {adK adV : Nat → Nat} {A : Nat → Prop} {U : State} {H : Heap} (h : vk_S 2 len byt adK adV A U H) : vk_S 2 len byt (fun i => cond (Nat.beq i 0) (adK 0) (adK 1)) (fun i => cond (Nat.beq i 0) (adV 0) (adV 1)) A U H := by
  have e : ∀ i : Nat, i < 2 → (fun i => cond (Nat.beq i 0) (adK 0) (adK 1)) i = adK i := fun i hi => by rcases (show i = 0 ∨ i = 1 by omega) with rfl | rfl <;> rfl
  have e2 : ∀ i : Nat, i < 2 → (fun i => cond (Nat.beq i 0) (adV 0) (adV 1)) i = adV i := fun i hi => by rcases (show i = 0 ∨ i = 1 by omega) with rfl | rfl <;> rfl
  refine ⟨fun i hi => ?_, fun i j hi hj hij => ?_⟩
  · rw [e i hi, e2 i hi]; exact h.1 i hi
  · rw [e i hi, e j hj] at hij; exact h.2 i j hi hj hij
set_option maxRecDepth 100000 in
set_option maxHeartbeats 4000000 in
/-- what the Statement gives of the constants -/
theorem px_consts {s : State} {b : Nat} (hts : ∀ w ∈ lw_tbl, w.before #[Value.ref b] s = true) (hgv : (Jvm.Cond.and given_1 narrow_1).before #[Value.ref b] s = true) : ∃ adc : Nat → Nat, adc 3004 = b ∧ px_KC adc (fun q => s.heap.size ≤ q) s s.heap := by
  have hs := flat_of_before _ hgv
  have hA : ∀ a : Nat, a < s.heap.size → ¬ s.heap.size ≤ a := fun a h => Nat.not_le.mpr h
  obtain ⟨a0, z0, t0⟩ := px_ints "FromTheMiddle" "LEAST" (A := fun q => s.heap.size ≤ q) px_K0l hA rfl (hts (Cond.laysStatic "FromTheMiddle" "LEAST" "[I") (List.mem_of_getElem? (i := 333) (by decide +kernel))) (hts (Cond.initialized "FromTheMiddle") (List.mem_of_getElem? (i := 85) (by decide +kernel))) (hs _ (by decide +kernel)) (hs _ (by decide +kernel)) (fun j hj => by rcases (show j = 0 ∨ j = 1 ∨ j = 2 ∨ j = 3 ∨ j = 4 ∨ j = 5 by omega) with rfl | rfl | rfl | rfl | rfl | rfl <;> exact hs _ (by decide +kernel))
  obtain ⟨a1, z1, t1⟩ := px_ints "FromTheMiddle" "MOST" (A := fun q => s.heap.size ≤ q) px_K1l hA rfl (hts (Cond.laysStatic "FromTheMiddle" "MOST" "[I") (List.mem_of_getElem? (i := 335) (by decide +kernel))) (hts (Cond.initialized "FromTheMiddle") (List.mem_of_getElem? (i := 85) (by decide +kernel))) (hs _ (by decide +kernel)) (hs _ (by decide +kernel)) (fun j hj => by rcases (show j = 0 ∨ j = 1 ∨ j = 2 ∨ j = 3 ∨ j = 4 ∨ j = 5 by omega) with rfl | rfl | rfl | rfl | rfl | rfl <;> exact hs _ (by decide +kernel))
  obtain ⟨adK, adV, hS, hE⟩ := vk_Sof (s := s) (args := #[Value.ref b]) (N := 2) (tm := fun i => cond (Nat.beq i 0) (.string "FromTheMiddle" 132) (.string "FromTheMiddle" 134)) (len := [3, 3]) (byt := [[99, 116, 119], [104, 110, 107]]) (A := fun q => s.heap.size ≤ q)
    (fun i hi => by rcases (show i = 0 ∨ i = 1 by omega) with rfl | rfl <;> decide)
    (fun i hi => by rcases (show i = 0 ∨ i = 1 by omega) with rfl | rfl <;> exact hs _ (by decide +kernel))
    (fun i hi => by rcases (show i = 0 ∨ i = 1 by omega) with rfl | rfl <;> exact hs _ (by decide +kernel))
    (fun i hi => by rcases (show i = 0 ∨ i = 1 by omega) with rfl | rfl <;> exact hs _ (by decide +kernel))
    (fun i hi => by rcases (show i = 0 ∨ i = 1 by omega) with rfl | rfl <;> exact hs _ (by decide +kernel))
    (fun i hi j hj => by
      rcases (show i = 0 ∨ i = 1 by omega) with rfl | rfl
      · rcases (show j = 0 ∨ j = 1 ∨ j = 2 by have : j < 3 := hj; omega) with rfl | rfl | rfl <;> exact hs _ (by decide +kernel)
      · rcases (show j = 0 ∨ j = 1 ∨ j = 2 by have : j < 3 := hj; omega) with rfl | rfl | rfl <;> exact hs _ (by decide +kernel))
    (fun i j hi hj hij => by
      rcases (show i = 0 ∨ i = 1 by omega) with rfl | rfl <;> rcases (show j = 0 ∨ j = 1 by omega) with rfl | rfl
      · exact absurd rfl hij
      · exact Or.inl (hs _ (by decide +kernel))
      · exact Or.inr (hs _ (by decide +kernel))
      · exact absurd rfl hij) hA
  have e0 := hE 0 (by omega)
  have e1 := hE 1 (by omega)
  refine ⟨fun k => cond (Nat.beq k 3000) a0 (cond (Nat.beq k 3001) a1 (cond (Nat.beq k 3002) (adK 0) (cond (Nat.beq k 3003) (adK 1) (cond (Nat.beq k 3012) (adV 0) (cond (Nat.beq k 3013) (adV 1) b))))), rfl, ⟨z0, t0⟩, ⟨z1, t1⟩, ⟨vk_R.of (hts (Cond.stringRef "FromTheMiddle" 132 "ctw") (List.mem_of_getElem? (i := 421) (by decide +kernel))) ?_, vk_R.of (hts (Cond.stringRef "FromTheMiddle" 134 "hnk") (List.mem_of_getElem? (i := 422) (by decide +kernel))) ?_⟩, ?_, (va_AO.of (A := #[Value.ref b]) (hts (Cond.arrayOver (.object "FromTheMiddle$Sheet")) (List.mem_of_getElem? (i := 178) (by decide +kernel)))), va_Zof (hts (Cond.laysStatic "java/lang/String" "COMPACT_STRINGS" "Z") (List.mem_of_getElem? (i := 454) (by decide +kernel))) (hts (Cond.initialized "java/lang/String") (List.mem_of_getElem? (i := 95) (by decide +kernel))) (va_eqt (hs _ (by decide +kernel))) hA, ?_⟩
  · exact e0
  · exact e1
  · intro q hq
    simp only [px_nest, List.mem_cons, List.not_mem_nil, or_false] at hq
    rcases hq with rfl | rfl | rfl | rfl | rfl | rfl | rfl | rfl | rfl | rfl
    · exact va_Nw.of rfl (hts (Cond.methodLinkNest "FromTheMiddle$Reckoner" 44 ⟨"FromTheMiddle", "quotient", "(II)I"⟩ "FromTheMiddle") (List.mem_of_getElem? (i := 596) (by decide +kernel)))
    · exact va_Nw.of rfl (hts (Cond.methodLinkNest "FromTheMiddle$Reckoner" 48 ⟨"FromTheMiddle", "rest", "(II)I"⟩ "FromTheMiddle") (List.mem_of_getElem? (i := 599) (by decide +kernel)))
    · exact va_Nw.of rfl (hts (Cond.methodLinkNest "FromTheMiddle$Row" 82 ⟨"FromTheMiddle", "quotient", "(II)I"⟩ "FromTheMiddle") (List.mem_of_getElem? (i := 635) (by decide +kernel)))
    · exact va_Nw.of rfl (hts (Cond.methodLinkNest "FromTheMiddle$Voices" 60 ⟨"FromTheMiddle", "isOfKind", "(II)Z"⟩ "FromTheMiddle") (List.mem_of_getElem? (i := 813) (by decide +kernel)))
    · exact va_Nw.of rfl (hts (Cond.methodLinkNest "FromTheMiddle$Voices" 64 ⟨"FromTheMiddle", "quotient", "(II)I"⟩ "FromTheMiddle") (List.mem_of_getElem? (i := 824) (by decide +kernel)))
    · exact va_Nw.of rfl (hts (Cond.methodLinkNest "FromTheMiddle" 30 ⟨"FromTheMiddle$Sheet", "<init>", "()V"⟩ "FromTheMiddle") (List.mem_of_getElem? (i := 180) (by decide +kernel)))
    · exact va_Nw.of rfl (hts (Cond.methodLinkNest "FromTheMiddle" 37 ⟨"FromTheMiddle$Row", "<init>", "()V"⟩ "FromTheMiddle") (List.mem_of_getElem? (i := 197) (by decide +kernel)))
    · exact va_Nw.of rfl (hts (Cond.methodLinkNest "FromTheMiddle" 44 ⟨"FromTheMiddle$Reader", "<init>", "()V"⟩ "FromTheMiddle") (List.mem_of_getElem? (i := 236) (by decide +kernel)))
    · exact va_Nw.of rfl (hts (Cond.methodLinkNest "FromTheMiddle" 51 ⟨"FromTheMiddle$Reckoner", "<init>", "()V"⟩ "FromTheMiddle") (List.mem_of_getElem? (i := 261) (by decide +kernel)))
    · exact va_Nw.of rfl (hts (Cond.methodLinkNest "FromTheMiddle" 58 ⟨"FromTheMiddle$Voices", "<init>", "()V"⟩ "FromTheMiddle") (List.mem_of_getElem? (i := 273) (by decide +kernel)))
  · exact px_vkS_two hS
theorem px_known {s : State} {b : Nat} (hts : ∀ w ∈ lw_tbl, w.before #[Value.ref b] s = true) : ∃ (D : va_G) (tc : Nat → ClassId), va_K D vwCl (px_ty tc) s := by
  have hws : ∀ w ∈ px_words, w.before #[Value.ref b] s = true := fun w hw => hts w (px_words_good w hw).1
  obtain ⟨c0, iS0, hKn0⟩ := u_known (C := RX0) (T := TX0) (N := 10) (n := 10) hws inw_0 (hws (.instantiable RX0 10) wq_110)
  obtain ⟨c1, iS1, hKn1⟩ := u_known (C := RX1) (T := TX1) (N := 2) (n := 2) hws inw_1 (hws (.instantiable RX1 2) wq_116)
  obtain ⟨c2, iS2, hKn2⟩ := u_known (C := RX2) (T := TX2) (N := 5) (n := 5) hws inw_2 (hws (.instantiable RX2 5) wq_235)
  obtain ⟨c3, iS3, hKn3⟩ := u_known (C := RX3) (T := TX3) (N := 1) (n := 1) hws inw_3 (hws (.instantiable RX3 1) wq_260)
  obtain ⟨c4, iS4, hKn4⟩ := u_known (C := RX4) (T := TX4) (N := 9) (n := 9) hws inw_4 (hws (.instantiable RX4 9) wq_196)
  obtain ⟨c5, iS5, hKn5⟩ := u_known (C := RX5) (T := TX5) (N := 2) (n := 2) hws inw_5 (hws (.instantiable RX5 2) wq_179)
  obtain ⟨c6, iS6, hKn6⟩ := u_known (C := RX6) (T := TX6) (N := 4) (n := 4) hws inw_6 (hws (.instantiable RX6 4) wq_272)
  obtain ⟨c7, iS7, hKn7⟩ := u_known (C := RX7) (T := TX7) (N := 9) (n := 9) hws inw_7 (hws (.instantiable RX7 9) wq_102)
  obtain ⟨c8, iS8, hKn8⟩ := u_known (C := RX8) (T := TX8) (N := 24) (n := 24) hws inw_8 (hws (.instantiable RX8 24) wq_894)
  obtain ⟨cA, kA, comp, f1, f2, f3⟩ := Cond.arrayClass_spec (show (Cond.arrayClass .int).holds #[Value.ref b] s none s [] = true from hws (.arrayClass .int) wq_131)
  obtain ⟨comp2, cB, kB, g1, g2, g3, g4, g5⟩ := Cond.arrayOver_spec (show (Cond.arrayOver (.object "FromTheMiddle$Sheet")).holds #[Value.ref b] s none s [] = true from (hts (Cond.arrayOver (.object "FromTheMiddle$Sheet")) (List.mem_of_getElem? (i := 178) (by decide +kernel))))
  refine ⟨(fun k => if k = 0 then c0 else if k = 1 then c1 else if k = 2 then c2 else if k = 3 then c3 else if k = 4 then c4 else if k = 5 then c5 else if k = 6 then c6 else if k = 7 then c7 else c8, fun k => if k = 0 then iS0 else if k = 1 then iS1 else if k = 2 then iS2 else if k = 3 then iS3 else if k = 4 then iS4 else if k = 5 then iS5 else if k = 6 then iS6 else if k = 7 then iS7 else iS8), fun k => if k = 0 then cA else cB, ?_, ?_⟩
  · intro k q hq
    match k, hq with
    | 0, hq => cases hq; exact hKn0
    | 1, hq => cases hq; exact hKn1
    | 2, hq => cases hq; exact hKn2
    | 3, hq => cases hq; exact hKn3
    | 4, hq => cases hq; exact hKn4
    | 5, hq => cases hq; exact hKn5
    | 6, hq => cases hq; exact hKn6
    | 7, hq => cases hq; exact hKn7
    | 8, hq => cases hq; exact hKn8
    | k + 9, hq => simp at hq
  · intro k q hq
    match k, hq with
    | 0, hq => cases hq; exact ⟨fun n z => ⟨(fun k h => by cases h), kA, f2, comp, f3⟩, f1⟩
    | 1, hq => cases hq; exact ⟨fun n z => ⟨(fun k h => by cases h), kB, g3, comp2, g4⟩, kB, comp2, g3, g4, g1, g5⟩
    | k + 2, hq => simp [px_ty] at hq
