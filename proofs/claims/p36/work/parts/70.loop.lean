def lw_ts : List Nat := [196, 229, 252, 275, 318, 351, 384, 417, 450, 513, 536, 559, 612, 645, 678, 721, 744, 767, 790, 813, 836, 859, 882, 915, 948, 991, 1014, 1057, 1100, 1163, 1186, 1209, 1222, 1235, 1258, 1271, 1294]
theorem zz_and63 (x : Int32) : ∃ k : Nat, k < 64 ∧ x &&& 63 = nI k := by
  have h1 : (x &&& 63).toBitVec.toNat < 64 := by
    rw [Int32.toBitVec_and, BitVec.toNat_and]
    exact Nat.lt_of_le_of_lt Nat.and_le_right (by decide)
  refine ⟨_, h1, ?_⟩
  apply Int32.toBitVec_inj.mp
  apply BitVec.eq_of_toNat_eq
  have e : (nI (x &&& 63).toBitVec.toNat).toBitVec.toNat = (x &&& 63).toBitVec.toNat % 2 ^ 32 := by
    show (Int32.ofNat _).toBitVec.toNat = _
    simp
    exact (Nat.mod_eq_of_lt (Nat.lt_of_le_of_lt Nat.and_le_right (by decide))).symm
  rw [e, Nat.mod_eq_of_lt (by omega)]
theorem lw_sw (k : Nat) (hk : k < 64) : px_sw 0 lw_ts 1317 (nI k).toInt = lw_ts.getD k 1317 := by
  have key : ∀ k : Fin 64, px_sw 0 lw_ts 1317 (nI k.1).toInt = lw_ts.getD k.1 1317 := by decide +kernel
  exact key ⟨k, hk⟩
theorem lw_loop {L : Nat} {xs : Nat → Int32} (hL : L ≤ 3072) {Q : Option Value → px_H → Prop} (hQ : ∀ h : px_H, Q (some (.int 1)) h) (hcase : ∀ (k i : Nat), k < 37 → i + 6 ≤ L → ∀ (Z N : Nat → Int32) (F : Nat → Nat → Int32) (Zm : Nat → Int32) (G : Nat → Nat → Int32), RR Z N F Zm G → (∀ (Z' N' : Nat → Int32) (F' : Nat → Nat → Int32) (Zm' : Nat → Int32) (G' : Nat → Nat → Int32), RR Z' N' F' Zm' G' → px_PW 60 (pc_L L xs) Q 1317 [some (.ref 3004), some (.ref 0), some (.ref 1000), some (.int (nI i))] [] (px_CH Z' N' F', px_MH Zm' G')) → px_PW 60 (pc_L L xs) Q (lw_ts.getD k 1317) [some (.ref 3004), some (.ref 0), some (.ref 1000), some (.int (nI i))] [] (px_CH Z N F, px_MH Zm G)) : ∀ (m i : Nat), L ≤ i + m → i ≤ L + 6 → ∀ (Z N : Nat → Int32) (F : Nat → Nat → Int32) (Zm : Nat → Int32) (G : Nat → Nat → Int32), RR Z N F Zm G → px_PW 60 (pc_L L xs) Q 18 [some (.ref 3004), some (.ref 0), some (.ref 1000), some (.int (nI i))] [] (px_CH Z N F, px_MH Zm G)
  | m, i, hm, hi, Z, N, F, Zm, G, h => by
      have eL : (Int32.ofNat L - 6).toInt = (L : Int) - 6 := zz_sub1 (x := Int32.ofNat L) (a := L) (b := 6) rfl (by omega) (by omega)
      refine px_PW.steps (frL L xs) 6 rfl ?_
      refine px_PW.br (fun c => ?_) (fun c => ?_)
      · refine px_PW.steps (frL L xs) 1 rfl ?_
        exact px_PW.ret (frL L xs) rfl rfl (hQ _)
      · have c2 : ¬ (Int32.ofNat L - 6 < nI i) := of_decide_eq_false c
        rw [Int32.lt_iff_toInt_lt, eL, nI_toInt (by omega)] at c2
        refine px_PW.steps (frL L xs) 2 rfl ?_
        refine px_PW.siald (frL L xs) rfl (n := i) rfl (by omega) (by omega) ?_
        refine px_PW.steps (frL L xs) 2 rfl ?_
        refine px_PW.steps (frL L xs) 1 rfl ?_
        obtain ⟨k, hk, ek⟩ := zz_and63 (xs i)
        have go : ∀ (Z' N' : Nat → Int32) (F' : Nat → Nat → Int32) (Zm' : Nat → Int32) (G' : Nat → Nat → Int32), RR Z' N' F' Zm' G' → px_PW 60 (pc_L L xs) Q 1317 [some (.ref 3004), some (.ref 0), some (.ref 1000), some (.int (nI i))] [] (px_CH Z' N' F', px_MH Zm' G') := by
          intro Z' N' F' Zm' G' h'
          refine px_PW.steps (frL L xs) 2 rfl ?_
          rw [show nI i + 6 = nI (i + 6) from nI_addB (a := i) (b := 6) (by omega)]
          cases m with
          | zero => omega
          | succ m => exact lw_loop hL hQ hcase (m - 5) (i + 6) (by omega) (by omega) Z' N' F' Zm' G' h'
        show px_PW 60 (pc_L L xs) Q (px_sw 0 lw_ts 1317 (xs i &&& 63).toInt) _ _ _
        rw [ek, lw_sw k hk]
        by_cases c37 : k < 37
        · exact hcase k i c37 (by omega) Z N F Zm G h go
        · have e2 : lw_ts.getD k 1317 = 1317 := by
            have key : ∀ k : Fin 64, 37 ≤ k.1 → lw_ts.getD k.1 1317 = 1317 := by decide +kernel
            exact key ⟨k, hk⟩ (by show 37 ≤ k; omega)
          rw [e2]
          exact go Z N F Zm G h
  termination_by m => m
  decreasing_by all_goals omega
