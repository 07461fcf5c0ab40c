def lw_ts : List Nat := [196, 229, 252, 275, 318, 351, 384, 417, 450, 513, 536, 559, 612, 645, 678, 721, 744, 767, 790, 813, 836, 859, 882, 915, 948, 991, 1014, 1057, 1100, 1163, 1186, 1209, 1222, 1235, 1258, 1271, 1294]
theorem zz_and63 (x : Int32) : ∃ k : Nat, k < 64 ∧ x &&& 63 = nI k := by
  have h1 : (x &&& 63).toBitVec.toNat < 64 := by
    rw [Int32.toBitVec_and, BitVec.toNat_and]
    exact Nat.lt_of_le_of_lt Nat.and_le_right (by decide)
  refine ⟨_, h1, ?_⟩
  apply Int32.toBitVec_inj.mp
  apply BitVec.eq_of_toNat_eq
  have e : (nI (x &&& 63).toBitVec.toNat).toBitVec.toNat = (x &&& 63).toBitVec.toNat % 2 ^ 32 := by
    show (Int32.ofNat _).toBitVec.toNat = _
    simp
    exact (Nat.mod_eq_of_lt (Nat.lt_of_le_of_lt Nat.and_le_right (by decide))).symm
  rw [e, Nat.mod_eq_of_lt (by omega)]
theorem lw_sw (k : Nat) (hk : k < 64) : px_sw 0 lw_ts 1317 (nI k).toInt = lw_ts.getD k 1317 := by
  have key : ∀ k : Fin 64, px_sw 0 lw_ts 1317 (nI k.1).toInt = lw_ts.getD k.1 1317 := by decide +kernel
  exact key ⟨k, hk⟩
theorem law_pure {L : Nat} {xs : Nat → Int32} (hL : L ≤ 6) : ∃ (n : Nat) (h' : px_H), px_loop (px_run px_codes 60 n) (pc_L L xs) n 16 [some (.ref 3004), some (.ref 0), some (.ref 1000), none] [] (px_C0, px_M0) = some (some (.int 1), h') := by
  have eL : (Int32.ofNat L - 6).toInt = (L : Int) - 6 := zz_sub1 (x := Int32.ofNat L) (a := L) (b := 6) rfl (by omega) (by omega)
  have hp : px_PW 60 (pc_L L xs) (fun r _ => r = some (.int 1)) 16 [some (.ref 3004), some (.ref 0), some (.ref 1000), none] [] (px_C0, px_M0) := by
    refine px_PW.steps (frL L xs) 2 rfl ?_
    refine px_PW.steps (frL L xs) 6 rfl ?_
    refine px_PW.br (fun c => ?_) (fun c => ?_)
    · refine px_PW.steps (frL L xs) 1 rfl ?_
      exact px_PW.ret (frL L xs) rfl rfl rfl
    · have c2 : ¬ (Int32.ofNat L - 6 < nI 0) := of_decide_eq_false c
      rw [Int32.lt_iff_toInt_lt, eL, nI_toInt (by omega)] at c2
      refine px_PW.steps (frL L xs) 2 rfl ?_
      refine px_PW.siald (frL L xs) rfl (n := 0) rfl (by omega) (by omega) ?_
      refine px_PW.steps (frL L xs) 2 rfl ?_
      refine px_PW.steps (frL L xs) 1 rfl ?_
      obtain ⟨k, hk, ek⟩ := zz_and63 (xs 0)
      have go : ∀ h : px_H, px_PW 60 (pc_L L xs) (fun r _ => r = some (.int 1)) 1317 [some (.ref 3004), some (.ref 0), some (.ref 1000), some (.int (nI 0))] [] h := by
        intro h
        refine px_PW.steps (frL L xs) 2 rfl ?_
        refine px_PW.steps (frL L xs) 6 rfl ?_
        refine px_PW.br (fun c => ?_) (fun c => ?_)
        · refine px_PW.steps (frL L xs) 1 rfl ?_
          exact px_PW.ret (frL L xs) rfl rfl rfl
        · have c3 : ¬ (Int32.ofNat L - 6 < nI 6) := of_decide_eq_false c
          rw [Int32.lt_iff_toInt_lt, eL, nI_toInt (by omega)] at c3
          omega
      show px_PW 60 (pc_L L xs) (fun r _ => r = some (.int 1)) (px_sw 0 lw_ts 1317 (xs 0 &&& 63).toInt) _ _ _
      rw [ek, lw_sw k hk]
      by_cases c37 : k < 37
      · match k, c37 with
        | 0, _ => exact lw_0 (i := 0) (by omega) (by omega) go
        | 1, _ => exact lw_1 (i := 0) (by omega) (by omega) go
        | 2, _ => exact lw_2 (i := 0) (by omega) (by omega) go
        | 3, _ => exact lw_3 (i := 0) (by omega) (by omega) go
        | 4, _ => exact lw_4 (i := 0) (by omega) (by omega) go
        | 5, _ => exact lw_5 (i := 0) (by omega) (by omega) go
        | 6, _ => exact lw_6 (i := 0) (by omega) (by omega) go
        | 7, _ => exact lw_7 (i := 0) (by omega) (by omega) go
        | 8, _ => exact lw_8 (i := 0) (by omega) (by omega) go
        | 9, _ => exact lw_9 (i := 0) (by omega) (by omega) go
        | 10, _ => exact lw_10 (i := 0) (by omega) (by omega) go
        | 11, _ => exact lw_11 (i := 0) (by omega) (by omega) go
        | 12, _ => exact lw_12 (i := 0) (by omega) (by omega) go
        | 13, _ => exact lw_13 (i := 0) (by omega) (by omega) go
        | 14, _ => exact lw_14 (i := 0) (by omega) (by omega) go
        | 15, _ => exact lw_15 (i := 0) (by omega) (by omega) go
        | 16, _ => exact lw_16 (i := 0) (by omega) (by omega) go
        | 17, _ => exact lw_17 (i := 0) (by omega) (by omega) go
        | 18, _ => exact lw_18 (i := 0) (by omega) (by omega) go
        | 19, _ => exact lw_19 (i := 0) (by omega) (by omega) go
        | 20, _ => exact lw_20 (i := 0) (by omega) (by omega) go
        | 21, _ => exact lw_21 (i := 0) (by omega) (by omega) go
        | 22, _ => exact lw_22 (i := 0) (by omega) (by omega) go
        | 23, _ => exact lw_23 (i := 0) (by omega) (by omega) go
        | 24, _ => exact lw_24 (i := 0) (by omega) (by omega) go
        | 25, _ => exact lw_25 (i := 0) (by omega) (by omega) go
        | 26, _ => exact lw_26 (i := 0) (by omega) (by omega) go
        | 27, _ => exact lw_27 (i := 0) (by omega) (by omega) go
        | 28, _ => exact lw_28 (i := 0) (by omega) (by omega) go
        | 29, _ => exact lw_29 (i := 0) (by omega) (by omega) go
        | 30, _ => exact lw_30 (i := 0) (by omega) (by omega) go
        | 31, _ => exact lw_31 (i := 0) (by omega) (by omega) go
        | 32, _ => exact lw_32 (i := 0) (by omega) (by omega) go
        | 33, _ => exact lw_33 (i := 0) (by omega) (by omega) go
        | 34, _ => exact lw_34 (i := 0) (by omega) (by omega) go
        | 35, _ => exact lw_35 (i := 0) (by omega) (by omega) go
        | 36, _ => exact lw_36 (i := 0) (by omega) (by omega) go
        | k + 37, hk => exact absurd hk (by omega)
      · have e2 : lw_ts.getD k 1317 = 1317 := by
          have key : ∀ k : Fin 64, 37 ≤ k.1 → lw_ts.getD k.1 1317 = 1317 := by decide +kernel
          exact key ⟨k, hk⟩ (by show 37 ≤ k; omega)
        rw [e2]
        exact go _
  obtain ⟨n, v, h', h1, rfl⟩ := hp
  exact ⟨n, h', h1⟩
