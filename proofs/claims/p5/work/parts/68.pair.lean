/-- one call of both, beside each other: what either holds stays apart -/
theorem px_pair {jc jm : Nat} {as : List Value} {c : Prop} (hs : px_st jc jm as c) {Z N Zm : Nat → Int32} {F G : Nat → Nat → Int32} (h : RR Z N F Zm G) : ∃ (a b : Int32) (Z' N' : Nat → Int32) (F' : Nat → Nat → Int32) (Zm' : Nat → Int32) (G' : Nat → Nat → Int32), px_PM 50 jc (.ref 0 :: as) (px_CH Z N F, px_MH Zm G) (fun r h' => r = some (.int a) ∧ h' = (px_CH Z' N' F', px_MH Zm G)) ∧ px_PM 50 jm (.ref 1000 :: as) (px_CH Z' N' F', px_MH Zm G) (fun r h' => r = some (.int b) ∧ h' = (px_CH Z' N' F', px_MH Zm' G')) ∧ RR Z' N' F' Zm' G' ∧ (c → a = b) := by
  obtain ⟨a, b, Z', N', F', Zm', G', h1, h2, h3, h4⟩ := hs Z N F Zm G h
  refine ⟨a, b, Z', N', F', Zm', G', ?_, ?_, h3, h4⟩
  · have k1 := px_PM.left (Q := fun (r : Option Value) (C : List va_E) => r = some (.int a) ∧ C = px_CH Z' N' F') (px_MH Zm G) (h1.mono (Nat.le_refl _) (fun v h' q => ⟨q.1, congrArg Prod.fst q.2⟩))
    exact k1.mono (Nat.le_refl _) (fun v h' q => ⟨q.1.1, Prod.ext q.1.2 q.2⟩)
  · have k2 := px_PM.right (Q := fun (r : Option Value) (M : List va_E) => r = some (.int b) ∧ M = px_MH Zm' G') (px_CH Z' N' F') (h2.mono (Nat.le_refl _) (fun v h' q => ⟨q.1, congrArg Prod.snd q.2⟩))
    exact k2.mono (Nat.le_refl _) (fun v h' q => ⟨q.1.1, Prod.ext q.2 q.1.2⟩)
theorem px_inbB {n L : Nat} (h : n < L) (hL : L ≤ 100000) : px_inb (nI n) L = true := by
  unfold px_inb
  rw [nI_clamp (by omega), decide_eq_true (nI_pos' (n := n) (by omega))]
  exact Nat.blt_eq.mpr h
theorem nI_addB {a b : Nat} (h : a + b < 100000) : nI a + nI b = nI (a + b) := by
  apply Int32.toInt_inj.mp
  rw [zz_add (nI_toInt (n := a) (by omega)) (nI_toInt (n := b) (by omega)) (by omega) (by omega), nI_toInt (by omega)]
  omega
theorem px_PW.siald {d L : Nat} {xs : Nat → Int32} {code : Nat → Option px_A} (hT : px_frT code) {Q : Option Value → px_H → Prop} {pc n : Nat} {i : Int32} {lv : px_L} {r : List Value} {h : px_H} (hc : code pc = some (px_siald L xs)) (hi : i = nI n) (hn : n < L) (hL : L ≤ 100000) (k : px_PW d code Q (pc + 1) lv (.int (xs n) :: r) h) : px_PW d code Q pc lv (.int i :: .ref 3004 :: r) h := by
  subst hi
  refine px_PW.one hc (fun m => ?_) k hT
  have e : px_siald L xs (px_run px_codes d m) pc lv (.int (nI n) :: .ref 3004 :: r) h = cond (Nat.beq 3004 3004 && px_inb (nI n) L) (some (.inl (pc + 1, lv, .int (xs (nI n).toNatClampNeg) :: r, h))) none := rfl
  rw [e, px_inbB hn hL, nI_clamp (by omega)]
  rfl
