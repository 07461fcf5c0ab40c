def s_piece (Z N : Nat → Int32) (F : Nat → Nat → Int32) (row : Int32) (i : Int32) : Int32 := (if row < 0 ∨ ((F 0) 4) ≤ row then (-1000000000 - 1) else (if (-1) ≤ i then (if i = (-1) then ((c_lay Z F row ((F 0) 6)) 10) else (if ((c_lay Z F row ((F 0) 6)) 10) ≤ i then (-1000000000 - 2) else (w_wid (c_lay Z F row ((F 0) 6)) i))) else (-1000000000 - 1)))
theorem kc_piece {Z N : Nat → Int32} {F : Nat → Nat → Int32} (hw : px_cw N) (row : Int32) (i : Int32) : px_PM 5 61 [.ref 0, .int row, .int i] (px_CH Z N F, []) (fun r h' => r = some (.int (s_piece Z N F row i)) ∧ ∃ Z' N' F', px_sc Z N F Z' N' F' ∧ h' = (px_CH Z' N' F', [])) := by
  refine px_PM.start (nL := 3) (code := pc_61) rfl rfl ?_
  refine px_PW.steps kt_61.2 2 rfl ?_
  refine px_PW.callV kt_61.2 rfl rfl rfl rfl (cc_isRow hw.1 _) (by decide) (fun v h1 q => ?_)
  obtain ⟨rfl, rfl⟩ := q
  refine px_PW.steps kt_61.2 1 rfl ?_
  refine px_PW.br (fun c0 => ?_) (fun c0 => ?_)
  · have c0 : row < 0 ∨ ((F 0) 4) ≤ row := px_b0z (of_decide_eq_true c0)
    refine px_PW.steps kt_61.2 2 rfl ?_
    refine px_PW.callV kt_61.2 rfl rfl rfl rfl (cc_error hw.2.2.1 1 (by decide)) (by decide) (fun v h1 q => ?_)
    obtain ⟨rfl, rfl⟩ := q
    refine px_PW.ret kt_61.2 rfl rfl ?_
    have E : s_piece Z N F row i = (-1000000000 - 1) := if_pos c0
    rw [E]
    exact ⟨rfl, _, _, _, px_sc.err, rfl⟩
  · have c0 : ¬ (row < 0 ∨ ((F 0) 4) ≤ row) := px_b0n (of_decide_eq_false c0)
    refine px_PW.steps kt_61.2 3 rfl ?_
    refine px_PW.br (fun c1 => ?_) (fun c1 => ?_)
    · have c1 : (-1) ≤ i := of_decide_eq_true c1
      refine px_PW.steps kt_61.2 4 rfl ?_
      refine px_PW.callV kt_61.2 rfl rfl rfl rfl (cc_is (N := N) hw.1 6 (by decide)) (by decide) (fun v h1 q => ?_)
      obtain ⟨rfl, rfl⟩ := q
      refine px_PW.callV kt_61.2 rfl rfl rfl rfl (rr_lay (N := N) hw.1 _ _) (by decide) (fun v h1 q => ?_)
      obtain ⟨rfl, rfl⟩ := q
      refine px_PW.steps kt_61.2 3 rfl ?_
      refine px_PW.br (fun c2 => ?_) (fun c2 => ?_)
      · have c2 : ¬ (i = (-1)) := of_decide_eq_false (px_nt c2)
        refine px_PW.steps kt_61.2 5 rfl ?_
        refine px_PW.br (fun c3 => ?_) (fun c3 => ?_)
        · have c3 : ((c_lay Z F row ((F 0) 6)) 10) ≤ i := of_decide_eq_true c3
          refine px_PW.steps kt_61.2 2 rfl ?_
          refine px_PW.callV kt_61.2 rfl rfl rfl rfl (cc_error hw.2.2.1 2 (by decide)) (by decide) (fun v h1 q => ?_)
          obtain ⟨rfl, rfl⟩ := q
          refine px_PW.ret kt_61.2 rfl rfl ?_
          have E : s_piece Z N F row i = (-1000000000 - 2) := (if_neg c0).trans ((if_pos c1).trans ((if_neg c2).trans (if_pos c3)))
          rw [E]
          exact ⟨rfl, _, _, _, (px_sc.z (c_lay_same _ _ _ _)).tr (px_sc.err), rfl⟩
        · have c3 : ¬ (((c_lay Z F row ((F 0) 6)) 10) ≤ i) := of_decide_eq_false c3
          refine px_PW.steps kt_61.2 3 rfl ?_
          refine px_PW.callV kt_61.2 rfl rfl rfl rfl (rw_wid _) (by decide) (fun v h1 q => ?_)
          obtain ⟨rfl, rfl⟩ := q
          refine px_PW.steps kt_61.2 1 rfl ?_
          refine px_PW.ret kt_61.2 rfl rfl ?_
          have E : s_piece Z N F row i = (w_wid (c_lay Z F row ((F 0) 6)) i) := (if_neg c0).trans ((if_pos c1).trans ((if_neg c2).trans (if_neg c3)))
          rw [E]
          exact ⟨rfl, _, _, _, px_sc.z (c_lay_same _ _ _ _), rfl⟩
      · have c2 : i = (-1) := of_decide_eq_true (px_nf c2)
        refine px_PW.steps kt_61.2 3 rfl ?_
        refine px_PW.ret kt_61.2 rfl rfl ?_
        have E : s_piece Z N F row i = ((c_lay Z F row ((F 0) 6)) 10) := (if_neg c0).trans ((if_pos c1).trans (if_pos c2))
        rw [E]
        exact ⟨rfl, _, _, _, px_sc.z (c_lay_same _ _ _ _), rfl⟩
    · have c1 : ¬ ((-1) ≤ i) := of_decide_eq_false c1
      refine px_PW.steps kt_61.2 2 rfl ?_
      refine px_PW.callV kt_61.2 rfl rfl rfl rfl (cc_error hw.2.2.1 1 (by decide)) (by decide) (fun v h1 q => ?_)
      obtain ⟨rfl, rfl⟩ := q
      refine px_PW.ret kt_61.2 rfl rfl ?_
      have E : s_piece Z N F row i = (-1000000000 - 1) := (if_neg c0).trans (if_neg c1)
      rw [E]
      exact ⟨rfl, _, _, _, px_sc.err, rfl⟩
def s_rowIs (Z N : Nat → Int32) (F : Nat → Nat → Int32) (row : Int32) (what : Int32) : Int32 := (if row < 0 ∨ ((F 0) 4) ≤ row then (-1000000000 - 1) else (if what = 0 then (c_len F row) else (if what = 1 then (w_cuts (c_lay Z F row ((F 0) 6))) else (if what = 2 then (w_nar (c_lay Z F row ((F 0) 6))) else (if what = 3 then (c_first F row ((F 0) 6)) else (-1000000000 - 1))))))
theorem px_swd_62_26 {x : Int32} (c0 : ¬ (x = 0)) (c1 : ¬ (x = 1)) (c2 : ¬ (x = 2)) (c3 : ¬ (x = 3)) : px_sw 0 [56, 62, 70, 78] 90 x.toInt = 90 := by
  have d0 : ¬ (x.toInt = 0) := fun h => c0 (px_i_of h (by decide +kernel))
  have d1 : ¬ (x.toInt = 1) := fun h => c1 (px_i_of h (by decide +kernel))
  have d2 : ¬ (x.toInt = 2) := fun h => c2 (px_i_of h (by decide +kernel))
  have d3 : ¬ (x.toInt = 3) := fun h => c3 (px_i_of h (by decide +kernel))
  exact px_sw_d (fun y h1 h2 => by
    have h1 : (0 : Int) ≤ y := h1
    have h2 : y < 4 := h2
    rcases (show y = 0 ∨ y = 1 ∨ y = 2 ∨ y = 3 by omega) with rfl | rfl | rfl | rfl
    · exact Or.inl (fun h => d0 h)
    · exact Or.inl (fun h => d1 h)
    · exact Or.inl (fun h => d2 h)
    · exact Or.inl (fun h => d3 h))
theorem kc_rowIs {Z N : Nat → Int32} {F : Nat → Nat → Int32} (hw : px_cw N) (row : Int32) (what : Int32) : px_PM 5 62 [.ref 0, .int row, .int what] (px_CH Z N F, []) (fun r h' => r = some (.int (s_rowIs Z N F row what)) ∧ ∃ Z' N' F', px_sc Z N F Z' N' F' ∧ h' = (px_CH Z' N' F', [])) := by
  refine px_PM.start (nL := 3) (code := pc_62) rfl rfl ?_
  refine px_PW.steps kt_62.2 2 rfl ?_
  refine px_PW.callV kt_62.2 rfl rfl rfl rfl (cc_isRow hw.1 _) (by decide) (fun v h1 q => ?_)
  obtain ⟨rfl, rfl⟩ := q
  refine px_PW.steps kt_62.2 1 rfl ?_
  refine px_PW.br (fun c0 => ?_) (fun c0 => ?_)
  · have c0 : ¬ (row < 0 ∨ ((F 0) 4) ≤ row) := px_b0n (of_decide_eq_false (px_nt c0))
    refine px_PW.steps kt_62.2 4 rfl ?_
    refine px_PW.callV kt_62.2 rfl rfl rfl rfl (cc_is (N := N) hw.1 6 (by decide)) (by decide) (fun v h1 q => ?_)
    obtain ⟨rfl, rfl⟩ := q
    refine px_PW.callV kt_62.2 rfl rfl rfl rfl (rr_lay (N := N) hw.1 _ _) (by decide) (fun v h1 q => ?_)
    obtain ⟨rfl, rfl⟩ := q
    refine px_PW.steps kt_62.2 2 rfl ?_
    by_cases c1 : what = 0
    · refine px_PW.at (pc' := 56) (by rw [c1]; rfl) ?_
      refine px_PW.steps kt_62.2 2 rfl ?_
      refine px_PW.callV kt_62.2 rfl rfl rfl rfl (rr_len hw.1 _) (by decide) (fun v h1 q => ?_)
      obtain ⟨rfl, rfl⟩ := q
      refine px_PW.ret kt_62.2 rfl rfl ?_
      have E : s_rowIs Z N F row what = (c_len F row) := (if_neg c0).trans (if_pos c1)
      rw [E]
      exact ⟨rfl, _, _, _, px_sc.z (c_lay_same _ _ _ _), rfl⟩
    · skip
      by_cases c2 : what = 1
      · refine px_PW.at (pc' := 62) (by rw [c2]; rfl) ?_
        refine px_PW.steps kt_62.2 2 rfl ?_
        refine px_PW.callV kt_62.2 rfl rfl rfl rfl (rw_cuts) (by decide) (fun v h1 q => ?_)
        obtain ⟨rfl, rfl⟩ := q
        refine px_PW.ret kt_62.2 rfl rfl ?_
        have E : s_rowIs Z N F row what = (w_cuts (c_lay Z F row ((F 0) 6))) := (if_neg c0).trans ((if_neg c1).trans (if_pos c2))
        rw [E]
        exact ⟨rfl, _, _, _, px_sc.z (c_lay_same _ _ _ _), rfl⟩
      · skip
        by_cases c3 : what = 2
        · refine px_PW.at (pc' := 70) (by rw [c3]; rfl) ?_
          refine px_PW.steps kt_62.2 2 rfl ?_
          refine px_PW.callV kt_62.2 rfl rfl rfl rfl (rw_nar) (by decide) (fun v h1 q => ?_)
          obtain ⟨rfl, rfl⟩ := q
          refine px_PW.ret kt_62.2 rfl rfl ?_
          have E : s_rowIs Z N F row what = (w_nar (c_lay Z F row ((F 0) 6))) := (if_neg c0).trans ((if_neg c1).trans ((if_neg c2).trans (if_pos c3)))
          rw [E]
          exact ⟨rfl, _, _, _, px_sc.z (c_lay_same _ _ _ _), rfl⟩
        · skip
          by_cases c4 : what = 3
          · refine px_PW.at (pc' := 78) (by rw [c4]; rfl) ?_
            refine px_PW.steps kt_62.2 4 rfl ?_
            refine px_PW.callV kt_62.2 rfl rfl rfl rfl (cc_is (N := N) hw.1 6 (by decide)) (by decide) (fun v h1 q => ?_)
            obtain ⟨rfl, rfl⟩ := q
            refine px_PW.callV kt_62.2 rfl rfl rfl rfl (rr_first hw.1 _ _) (by decide) (fun v h1 q => ?_)
            obtain ⟨rfl, rfl⟩ := q
            refine px_PW.ret kt_62.2 rfl rfl ?_
            have E : s_rowIs Z N F row what = (c_first F row ((F 0) 6)) := (if_neg c0).trans ((if_neg c1).trans ((if_neg c2).trans ((if_neg c3).trans (if_pos c4))))
            rw [E]
            exact ⟨rfl, _, _, _, px_sc.z (c_lay_same _ _ _ _), rfl⟩
          · skip
            refine px_PW.at (px_swd_62_26 c1 c2 c3 c4) ?_
            refine px_PW.steps kt_62.2 2 rfl ?_
            refine px_PW.callV kt_62.2 rfl rfl rfl rfl (cc_error hw.2.2.1 1 (by decide)) (by decide) (fun v h1 q => ?_)
            obtain ⟨rfl, rfl⟩ := q
            refine px_PW.ret kt_62.2 rfl rfl ?_
            have E : s_rowIs Z N F row what = (-1000000000 - 1) := (if_neg c0).trans ((if_neg c1).trans ((if_neg c2).trans ((if_neg c3).trans (if_neg c4))))
            rw [E]
            exact ⟨rfl, _, _, _, (px_sc.z (c_lay_same _ _ _ _)).tr (px_sc.err), rfl⟩
  · have c0 : row < 0 ∨ ((F 0) 4) ≤ row := px_b0z (of_decide_eq_true (px_nf c0))
    refine px_PW.steps kt_62.2 2 rfl ?_
    refine px_PW.callV kt_62.2 rfl rfl rfl rfl (cc_error hw.2.2.1 1 (by decide)) (by decide) (fun v h1 q => ?_)
    obtain ⟨rfl, rfl⟩ := q
    refine px_PW.ret kt_62.2 rfl rfl ?_
    have E : s_rowIs Z N F row what = (-1000000000 - 1) := if_pos c0
    rw [E]
    exact ⟨rfl, _, _, _, px_sc.err, rfl⟩
def c_wrow (F : Nat → Nat → Int32) (k s : Int32) (j : Nat) : Int32 := w_wid (c_lay (fun _ => 0) F k s) (nI j)
theorem c_wrow_eq (Z : Nat → Int32) (F : Nat → Nat → Int32) (k s : Int32) (j : Nat) : w_wid (c_lay Z F k s) (nI j) = c_wrow F k s j := rfl
def s_rff (Z : Nat → Int32) (F : Nat → Nat → Int32) (k j : Nat) : Bool := decide (F (19 + k) j = w_wid Z (nI j))
theorem c_rf_loop {Z N : Nat → Int32} {F : Nat → Nat → Int32} {k S P : Nat} (hk : k < 4) (hS : N (19 + k) = nI S) (hS24 : S ≤ 24) (hP : Z 10 = nI P) (hP3 : P < 1000) {B : Nat} (hB : B = min S P) {Q : Option Value → px_H → Prop} : ∀ (m j : Nat), j + m = B → px_PW 2 pc_106 Q 44 [some (.ref 0), some (.ref (px_O (19 + k))), some (.int (nI B)), some (.int (nI (zz_run (s_rff Z F k) m j)))] [] (px_CH Z N F, []) → px_PW 2 pc_106 Q 17 [some (.ref 0), some (.ref (px_O (19 + k))), some (.int (nI B)), some (.int (nI j))] [] (px_CH Z N F, [])
  | m, j, hj, H => by
    refine px_PW.steps kt_106.2 3 rfl ?_
    refine px_PW.br (fun c0 => ?_) (fun c0 => ?_)
    · have c0 : (nI B) ≤ (nI j) := of_decide_eq_true c0
      have c0 : B ≤ j := (nI_leI (a := B) (b := j) (by omega) (by omega)).mp c0
      obtain rfl : m = 0 := by omega
      exact H
    · have c0 : ¬ ((nI B) ≤ (nI j)) := of_decide_eq_false c0
      have c0 : ¬ (B ≤ j) := fun q => c0 ((nI_leI (a := B) (b := j) (by omega) (by omega)).mpr q)
      obtain ⟨m2, rfl⟩ : ∃ m2, m = m2 + 1 := ⟨m - 1, by omega⟩
      refine px_PW.steps kt_106.2 2 rfl ?_
      refine px_PW.callV kt_106.2 rfl rfl (ch_isO (by omega)) rfl (nb_getN (q := 19 + k) (L := S) (by omega) hS (by rw [px_lim19 hk]; exact hS24) (show j < S by omega)) (by decide) (fun v h1 q => ?_)
      obtain ⟨rfl, rfl⟩ := q
      refine px_PW.steps kt_106.2 3 rfl ?_
      refine px_PW.callV kt_106.2 rfl rfl rfl rfl (rw_wid _) (by decide) (fun v h1 q => ?_)
      obtain ⟨rfl, rfl⟩ := q
      refine px_PW.steps kt_106.2 1 rfl ?_
      refine px_PW.br (fun c1 => ?_) (fun c1 => ?_)
      · have c1 : ¬ ((F (19 + k) j) = (w_wid Z (nI j))) := of_decide_eq_false (px_nt c1)
        rw [zz_run_n (show ¬ (s_rff Z F k j = true) from fun q => c1 (of_decide_eq_true q))] at H
        exact H
      · have c1 : (F (19 + k) j) = (w_wid Z (nI j)) := of_decide_eq_true (px_nf c1)
        refine px_PW.steps kt_106.2 2 rfl ?_
        rw [zz_run_y (show s_rff Z F k j = true from decide_eq_true c1)] at H
        have g := c_rf_loop hk hS hS24 hP hP3 hB (Q := Q) m2 (j + 1) (by omega) H
        rw [nI_succ j] at g
        exact g
theorem cc_rff {Z N : Nat → Int32} {F : Nat → Nat → Int32} {k S P : Nat} (hk : k < 4) (hS : N (19 + k) = nI S) (hS24 : S ≤ 24) (hP : Z 10 = nI P) (hP3 : P < 1000) : px_PM 3 106 [.ref 0, .ref (px_O (19 + k))] (px_CH Z N F, []) (fun r h' => r = some (.int (nI (zz_run (s_rff Z F k) (min S P) 0))) ∧ h' = (px_CH Z N F, [])) := by
  refine px_PM.start (nL := 4) (code := pc_106) rfl rfl ?_
  refine px_PW.steps kt_106.2 1 rfl ?_
  refine px_PW.callV kt_106.2 rfl rfl (ch_isO (by omega)) rfl (nb_size (q := 19 + k) (by omega)) (by decide) (fun v h1 q => ?_)
  obtain ⟨rfl, rfl⟩ := q
  refine px_PW.steps kt_106.2 7 rfl ?_
  refine px_PW.lc (lv' := [some (.ref 0), some (.ref (px_O (19 + k))), some (.int (nI (min S P))), some (.int (nI 0))]) (by rw [← zz_min S P (by omega) (by omega), ← hS, ← hP]; rfl) ?_
  refine c_rf_loop hk hS hS24 hP hP3 rfl (min S P) 0 (by omega) ?_
  refine px_PW.steps kt_106.2 1 rfl ?_
  exact px_PW.ret kt_106.2 rfl rfl ⟨rfl, rfl⟩
def s_judge (S P : Nat) (Z N : Nat → Int32) (F : Nat → Nat → Int32) (k : Nat) : Int32 := (if (Z (2 + k)) = 0 then (-1000000000 - 2) else (nI (zz_run (s_rff (c_lay Z F 0 ((F 0) 6)) F k) (min S P) 0)))
theorem kc_judge {Z N : Nat → Int32} {F : Nat → Nat → Int32} (hw : px_cw N) (k : Nat) {S P : Nat} (hk : k < 4) (hS : N (19 + k) = nI S) (hS24 : S ≤ 24) (hP : c_prow F 0 (F 0 6) = nI P) (hP3 : P < 1000) : px_PM 5 79 [.ref 0, .int (nI k)] (px_CH Z N F, []) (fun r h' => r = some (.int (s_judge S P Z N F k)) ∧ ∃ Z' N' F', px_sc Z N F Z' N' F' ∧ h' = (px_CH Z' N' F', [])) := by
  refine px_PM.start (nL := 3) (code := pc_79) rfl rfl ?_
  refine px_PW.steps kt_79.2 2 rfl ?_
  refine px_PW.callV kt_79.2 rfl rfl rfl rfl (cc_sheetAt k hk) (by decide) (fun v h1 q => ?_)
  obtain ⟨rfl, rfl⟩ := q
  refine px_PW.steps kt_79.2 4 rfl ?_
  refine px_PW.callV kt_79.2 rfl rfl (ch_isSh hk) rfl (cc_isMissing hk) (by decide) (fun v h1 q => ?_)
  obtain ⟨rfl, rfl⟩ := q
  refine px_PW.steps kt_79.2 1 rfl ?_
  refine px_PW.br (fun c0 => ?_) (fun c0 => ?_)
  · have c0 : ¬ ((Z (2 + k)) = 0) := px_b1z (of_decide_eq_true c0)
    refine px_PW.steps kt_79.2 4 rfl ?_
    refine px_PW.callV kt_79.2 rfl rfl rfl rfl (cc_is (N := N) hw.1 6 (by decide)) (by decide) (fun v h1 q => ?_)
    obtain ⟨rfl, rfl⟩ := q
    refine px_PW.callV kt_79.2 rfl rfl rfl rfl (rr_lay (N := N) hw.1 _ _) (by decide) (fun v h1 q => ?_)
    obtain ⟨rfl, rfl⟩ := q
    refine px_PW.steps kt_79.2 2 rfl ?_
    refine px_PW.getf kt_79.2 rfl (ch_sh hk) rfl ?_
    refine px_PW.callV kt_79.2 rfl rfl rfl rfl (cc_rff (Z := (c_lay Z F 0 ((F 0) 6))) hk hS hS24 hP hP3) (by decide) (fun v h1 q => ?_)
    obtain ⟨rfl, rfl⟩ := q
    refine px_PW.ret kt_79.2 rfl rfl ?_
    have E : s_judge S P Z N F k = (nI (zz_run (s_rff (c_lay Z F 0 ((F 0) 6)) F k) (min S P) 0)) := if_neg c0
    rw [E]
    exact ⟨rfl, _, _, _, px_sc.z (c_lay_same _ _ _ _), rfl⟩
  · have c0 : (Z (2 + k)) = 0 := px_b1n (of_decide_eq_false c0)
    refine px_PW.steps kt_79.2 2 rfl ?_
    refine px_PW.callV kt_79.2 rfl rfl rfl rfl (cc_error hw.2.2.1 2 (by decide)) (by decide) (fun v h1 q => ?_)
    obtain ⟨rfl, rfl⟩ := q
    refine px_PW.ret kt_79.2 rfl rfl ?_
    have E : s_judge S P Z N F k = (-1000000000 - 2) := if_pos c0
    rw [E]
    exact ⟨rfl, _, _, _, px_sc.err, rfl⟩
def s_judgeB (Z N : Nat → Int32) (F : Nat → Nat → Int32) (sheet : Int32) : Int32 := (-1000000000 - 1)
theorem kc_judgeB {Z N : Nat → Int32} {F : Nat → Nat → Int32} (hw : px_cw N) (sheet : Int32) (hb : sheet < 0 ∨ 4 ≤ sheet) : px_PM 3 79 [.ref 0, .int sheet] (px_CH Z N F, []) (fun r h' => r = some (.int (s_judgeB Z N F sheet)) ∧ ∃ Z' N' F', px_sc Z N F Z' N' F' ∧ h' = (px_CH Z' N' F', [])) := by
  refine px_PM.start (nL := 3) (code := pc_79) rfl rfl ?_
  refine px_PW.steps kt_79.2 2 rfl ?_
  refine px_PW.callV kt_79.2 rfl rfl rfl rfl (cc_sheetAtB _ hb) (by decide) (fun v h1 q => ?_)
  obtain ⟨rfl, rfl⟩ := q
  refine px_PW.steps kt_79.2 5 rfl ?_
  refine px_PW.callV kt_79.2 rfl rfl rfl rfl (cc_error hw.2.2.1 1 (by decide)) (by decide) (fun v h1 q => ?_)
  obtain ⟨rfl, rfl⟩ := q
  refine px_PW.ret kt_79.2 rfl rfl ?_
  have E : s_judgeB Z N F sheet = (-1000000000 - 1) := rfl
  rw [E]
  exact ⟨rfl, _, _, _, px_sc.err, rfl⟩
/-- from START s down to 1: how many fit, and the least -/
def s_fit (g : Nat → Bool) : Nat → Int32 × Int32 → Int32 × Int32
  | 0, a => a
  | s + 1, a => s_fit g s (if g (s + 1) = true then (a.1 + 1, nI (s + 1)) else a)
def s_fitg (S : Nat) (P : Nat → Nat) (F : Nat → Nat → Int32) (k s : Nat) : Bool := decide (nI (zz_run (s_rff (c_lay (fun _ => 0) F 0 (nI s)) F k) (min S (P s)) 0) = nI S)
theorem c_fit_loop {N : Nat → Int32} {F : Nat → Nat → Int32} (hw : px_cw N) {k : Nat} {S T : Nat} {P : Nat → Nat} (hk : k < 4) (hS : N (19 + k) = nI S) (hS24 : S ≤ 24) (hP : ∀ s : Nat, 1 ≤ s → s ≤ T → c_prow F 0 (nI s) = nI (P s) ∧ P s < 1000) (hT : F 0 1 = nI T) (hT200 : T ≤ 200) {what : Int32} {Q : Option Value → px_H → Prop} : ∀ (s : Nat) (a : Int32 × Int32) (Z : Nat → Int32), s ≤ T → (∀ Z' : Nat → Int32, px_same Z Z' → px_PW 4 pc_72 Q 95 [some (.ref 0), some (.int (nI k)), some (.int what), some (.ref (42 + 3 * k)), some (.int (s_fit (s_fitg S P F k) s a).1), some (.int (s_fit (s_fitg S P F k) s a).2), some (.int (nI 0))] [] (px_CH Z' N F, [])) → px_PW 4 pc_72 Q 51 [some (.ref 0), some (.int (nI k)), some (.int what), some (.ref (42 + 3 * k)), some (.int a.1), some (.int a.2), some (.int (nI s))] [] (px_CH Z N F, [])
  | s, a, Z, hs, H => by
    refine px_PW.steps kt_72.2 3 rfl ?_
    refine px_PW.br (fun c0 => ?_) (fun c0 => ?_)
    · have c0 : (nI s) < 1 := of_decide_eq_true c0
      have c0 : s < 1 := (nI_ltI (a := s) (b := 1) (by omega) (by omega)).mp c0
      obtain rfl : s = 0 := by omega
      exact H Z px_same.rf
    · have c0 : ¬ ((nI s) < 1) := of_decide_eq_false c0
      have c0 : ¬ (s < 1) := fun q => c0 ((nI_ltI (a := s) (b := 1) (by omega) (by omega)).mpr q)
      refine px_PW.steps kt_72.2 3 rfl ?_
      refine px_PW.callV kt_72.2 rfl rfl rfl rfl (rr_lay (N := N) hw.1 _ _) (by decide) (fun v h1 q => ?_)
      obtain ⟨rfl, rfl⟩ := q
      refine px_PW.steps kt_72.2 2 rfl ?_
      refine px_PW.getf kt_72.2 rfl (ch_sh hk) rfl ?_
      refine px_PW.callV kt_72.2 rfl rfl rfl rfl (cc_rff (Z := (c_lay Z F 0 (nI s))) hk hS hS24 (hP s (by omega) hs).1 (hP s (by omega) hs).2) (by decide) (fun v h1 q => ?_)
      obtain ⟨rfl, rfl⟩ := q
      refine px_PW.steps kt_72.2 1 rfl ?_
      refine px_PW.getf kt_72.2 rfl (ch_sh hk) rfl ?_
      refine px_PW.callV kt_72.2 rfl rfl (ch_isO (by omega)) rfl (nb_size (q := 19 + k) (by omega)) (by decide) (fun v h1 q => ?_)
      obtain ⟨rfl, rfl⟩ := q
      refine px_PW.steps kt_72.2 1 rfl ?_
      refine px_PW.br (fun c1 => ?_) (fun c1 => ?_)
      · have c1 : ¬ ((nI (zz_run (s_rff (c_lay Z F 0 (nI s)) F k) (min S (P s)) 0)) = (N (19 + k))) := of_decide_eq_false (px_nt c1)
        refine px_PW.steps kt_72.2 2 rfl ?_
        obtain ⟨t, ht⟩ : ∃ t, s = t + 1 := ⟨s - 1, by omega⟩
        have e0 : s_fit (s_fitg S P F k) s a = s_fit (s_fitg S P F k) t a := by subst ht; exact congrArg (s_fit (s_fitg S P F k) t) (if_neg (fun q => c1 ((of_decide_eq_true q).trans hS.symm)))
        have g := c_fit_loop hw hk hS hS24 hP hT hT200 (what := what) (Q := Q) t a (c_lay Z F 0 (nI s)) (by omega) (fun Z2 hZ => by have h := H Z2 ((c_lay_same Z F _ _).tr hZ); rw [e0] at h; exact h)
        have e : nI s + -1 = nI t := by rw [ht]; exact zz_dec t
        refine px_PW.lc (lv' := [some (.ref 0), some (.int (nI k)), some (.int what), some (.ref (42 + 3 * k)), some (.int a.1), some (.int a.2), some (.int (nI t))]) (by rw [← e]; rfl) ?_
        exact g
      · have c1 : (nI (zz_run (s_rff (c_lay Z F 0 (nI s)) F k) (min S (P s)) 0)) = (N (19 + k)) := of_decide_eq_true (px_nf c1)
        refine px_PW.steps kt_72.2 5 rfl ?_
        obtain ⟨t, ht⟩ : ∃ t, s = t + 1 := ⟨s - 1, by omega⟩
        have e0 : s_fit (s_fitg S P F k) s a = s_fit (s_fitg S P F k) t (a.1 + 1, nI s) := by subst ht; exact congrArg (s_fit (s_fitg S P F k) t) (if_pos (decide_eq_true (c1.trans hS)))
        have g := c_fit_loop hw hk hS hS24 hP hT hT200 (what := what) (Q := Q) t (a.1 + 1, nI s) (c_lay Z F 0 (nI s)) (by omega) (fun Z2 hZ => by have h := H Z2 ((c_lay_same Z F _ _).tr hZ); rw [e0] at h; exact h)
        have e : nI s + -1 = nI t := by rw [ht]; exact zz_dec t
        refine px_PW.lc (lv' := [some (.ref 0), some (.int (nI k)), some (.int what), some (.ref (42 + 3 * k)), some (.int (a.1 + 1, nI s).1), some (.int (a.1 + 1, nI s).2), some (.int (nI t))]) (by rw [← e]; rfl) ?_
        exact g
def s_fits (S T : Nat) (P : Nat → Nat) (Z N : Nat → Int32) (F : Nat → Nat → Int32) (k : Nat) (what : Int32) : Int32 := (if what < 0 then (-1000000000 - 1) else (if what ≤ 1 then (if (Z (2 + k)) = 0 then (-1000000000 - 2) else (if what = 0 then (s_fit (s_fitg S P F k) T (0, 0)).1 else (if (s_fit (s_fitg S P F k) T (0, 0)).1 ≤ 0 then (-1000000000 - 2) else (s_fit (s_fitg S P F k) T (0, 0)).2))) else (-1000000000 - 1)))
theorem kc_fits {Z N : Nat → Int32} {F : Nat → Nat → Int32} (hw : px_cw N) (k : Nat) {S T : Nat} {P : Nat → Nat} (hk : k < 4) (hS : N (19 + k) = nI S) (hS24 : S ≤ 24) (hP : ∀ s : Nat, 1 ≤ s → s ≤ T → c_prow F 0 (nI s) = nI (P s) ∧ P s < 1000) (hT : F 0 1 = nI T) (hT200 : T ≤ 200) (what : Int32) : px_PM 5 72 [.ref 0, .int (nI k), .int what] (px_CH Z N F, []) (fun r h' => r = some (.int (s_fits S T P Z N F k what)) ∧ ∃ Z' N' F', px_sc Z N F Z' N' F' ∧ h' = (px_CH Z' N' F', [])) := by
  refine px_PM.start (nL := 7) (code := pc_72) rfl rfl ?_
  refine px_PW.steps kt_72.2 2 rfl ?_
  refine px_PW.callV kt_72.2 rfl rfl rfl rfl (cc_sheetAt k hk) (by decide) (fun v h1 q => ?_)
  obtain ⟨rfl, rfl⟩ := q
  refine px_PW.steps kt_72.2 5 rfl ?_
  refine px_PW.br (fun c0 => ?_) (fun c0 => ?_)
  · have c0 : what < 0 := of_decide_eq_true c0
    refine px_PW.steps kt_72.2 2 rfl ?_
    refine px_PW.callV kt_72.2 rfl rfl rfl rfl (cc_error hw.2.2.1 1 (by decide)) (by decide) (fun v h1 q => ?_)
    obtain ⟨rfl, rfl⟩ := q
    refine px_PW.ret kt_72.2 rfl rfl ?_
    have E : s_fits S T P Z N F k what = (-1000000000 - 1) := if_pos c0
    rw [E]
    exact ⟨rfl, _, _, _, px_sc.err, rfl⟩
  · have c0 : ¬ (what < 0) := of_decide_eq_false c0
    refine px_PW.steps kt_72.2 3 rfl ?_
    refine px_PW.br (fun c1 => ?_) (fun c1 => ?_)
    · have c1 : what ≤ 1 := of_decide_eq_true c1
      refine px_PW.steps kt_72.2 1 rfl ?_
      refine px_PW.callV kt_72.2 rfl rfl (ch_isSh hk) rfl (cc_isMissing hk) (by decide) (fun v h1 q => ?_)
      obtain ⟨rfl, rfl⟩ := q
      refine px_PW.steps kt_72.2 1 rfl ?_
      refine px_PW.br (fun c2 => ?_) (fun c2 => ?_)
      · have c2 : ¬ ((Z (2 + k)) = 0) := px_b1z (of_decide_eq_true c2)
        refine px_PW.steps kt_72.2 6 rfl ?_
        refine px_PW.callV kt_72.2 rfl rfl rfl rfl (cc_is (N := N) hw.1 1 (by decide)) (by decide) (fun v h1 q => ?_)
        obtain ⟨rfl, rfl⟩ := q
        refine px_PW.steps kt_72.2 1 rfl ?_
        refine px_PW.lc (lv' := [some (.ref 0), some (.int (nI k)), some (.int what), some (.ref (42 + 3 * k)), some (.int ((0 : Int32), (0 : Int32)).1), some (.int ((0 : Int32), (0 : Int32)).2), some (.int (nI T))]) (by rw [← hT]; rfl) ?_
        refine c_fit_loop hw hk hS hS24 hP hT hT200 T (0, 0) Z (Nat.le_refl T) (fun Z2 hZ => ?_)
        refine px_PW.steps kt_72.2 2 rfl ?_
        refine px_PW.br (fun c3 => ?_) (fun c3 => ?_)
        · have c3 : ¬ (what = 0) := of_decide_eq_false (px_nt c3)
          refine px_PW.steps kt_72.2 2 rfl ?_
          refine px_PW.br (fun c4 => ?_) (fun c4 => ?_)
          · have c4 : (s_fit (s_fitg S P F k) T (0, 0)).1 ≤ 0 := of_decide_eq_true c4
            refine px_PW.steps kt_72.2 2 rfl ?_
            refine px_PW.callV kt_72.2 rfl rfl rfl rfl (cc_error hw.2.2.1 2 (by decide)) (by decide) (fun v h1 q => ?_)
            obtain ⟨rfl, rfl⟩ := q
            refine px_PW.ret kt_72.2 rfl rfl ?_
            have E : s_fits S T P Z N F k what = (-1000000000 - 2) := (if_neg c0).trans ((if_pos c1).trans ((if_neg c2).trans ((if_neg c3).trans (if_pos c4))))
            rw [E]
            exact ⟨rfl, _, _, _, (px_sc.z hZ).tr (px_sc.err), rfl⟩
          · have c4 : ¬ ((s_fit (s_fitg S P F k) T (0, 0)).1 ≤ 0) := of_decide_eq_false c4
            refine px_PW.steps kt_72.2 2 rfl ?_
            refine px_PW.ret kt_72.2 rfl rfl ?_
            have E : s_fits S T P Z N F k what = (s_fit (s_fitg S P F k) T (0, 0)).2 := (if_neg c0).trans ((if_pos c1).trans ((if_neg c2).trans ((if_neg c3).trans (if_neg c4))))
            rw [E]
            exact ⟨rfl, _, _, _, px_sc.z hZ, rfl⟩
        · have c3 : what = 0 := of_decide_eq_true (px_nf c3)
          refine px_PW.steps kt_72.2 1 rfl ?_
          refine px_PW.ret kt_72.2 rfl rfl ?_
          have E : s_fits S T P Z N F k what = (s_fit (s_fitg S P F k) T (0, 0)).1 := (if_neg c0).trans ((if_pos c1).trans ((if_neg c2).trans (if_pos c3)))
          rw [E]
          exact ⟨rfl, _, _, _, px_sc.z hZ, rfl⟩
      · have c2 : (Z (2 + k)) = 0 := px_b1n (of_decide_eq_false c2)
        refine px_PW.steps kt_72.2 2 rfl ?_
        refine px_PW.callV kt_72.2 rfl rfl rfl rfl (cc_error hw.2.2.1 2 (by decide)) (by decide) (fun v h1 q => ?_)
        obtain ⟨rfl, rfl⟩ := q
        refine px_PW.ret kt_72.2 rfl rfl ?_
        have E : s_fits S T P Z N F k what = (-1000000000 - 2) := (if_neg c0).trans ((if_pos c1).trans (if_pos c2))
        rw [E]
        exact ⟨rfl, _, _, _, px_sc.err, rfl⟩
    · have c1 : ¬ (what ≤ 1) := of_decide_eq_false c1
      refine px_PW.steps kt_72.2 2 rfl ?_
      refine px_PW.callV kt_72.2 rfl rfl rfl rfl (cc_error hw.2.2.1 1 (by decide)) (by decide) (fun v h1 q => ?_)
      obtain ⟨rfl, rfl⟩ := q
      refine px_PW.ret kt_72.2 rfl rfl ?_
      have E : s_fits S T P Z N F k what = (-1000000000 - 1) := (if_neg c0).trans (if_neg c1)
      rw [E]
      exact ⟨rfl, _, _, _, px_sc.err, rfl⟩
def s_fitsB (Z N : Nat → Int32) (F : Nat → Nat → Int32) (sheet : Int32) (what : Int32) : Int32 := (-1000000000 - 1)
theorem kc_fitsB {Z N : Nat → Int32} {F : Nat → Nat → Int32} (hw : px_cw N) (sheet : Int32) (what : Int32) (hb : sheet < 0 ∨ 4 ≤ sheet) : px_PM 3 72 [.ref 0, .int sheet, .int what] (px_CH Z N F, []) (fun r h' => r = some (.int (s_fitsB Z N F sheet what)) ∧ ∃ Z' N' F', px_sc Z N F Z' N' F' ∧ h' = (px_CH Z' N' F', [])) := by
  refine px_PM.start (nL := 7) (code := pc_72) rfl rfl ?_
  refine px_PW.steps kt_72.2 2 rfl ?_
  refine px_PW.callV kt_72.2 rfl rfl rfl rfl (cc_sheetAtB _ hb) (by decide) (fun v h1 q => ?_)
  obtain ⟨rfl, rfl⟩ := q
  refine px_PW.steps kt_72.2 5 rfl ?_
  refine px_PW.callV kt_72.2 rfl rfl rfl rfl (cc_error hw.2.2.1 1 (by decide)) (by decide) (fun v h1 q => ?_)
  obtain ⟨rfl, rfl⟩ := q
  refine px_PW.ret kt_72.2 rfl rfl ?_
  have E : s_fitsB Z N F sheet what = (-1000000000 - 1) := rfl
  rw [E]
  exact ⟨rfl, _, _, _, px_sc.err, rfl⟩
/-- m more STARTS from k on: the best, its narrowest piece, its CUTS -/
def s_bst (nar cut : Nat → Int32) : Nat → Nat → Nat × Int32 × Int32 → Nat × Int32 × Int32
  | 0, _, a => a
  | m + 1, k, a => s_bst nar cut m (k + 1) (if nar k < a.2.1 then a else if a.2.1 < nar k then (k, nar k, cut k) else if cut k < a.2.2 then (k, nar k, cut k) else a)
theorem c_bst_loop {N : Nat → Int32} {F : Nat → Nat → Int32} (hw : px_cw N) {R T : Nat} (hR : F 0 4 = nI R) (hR8 : R ≤ 8) (hT : F 0 1 = nI T) (hT200 : T ≤ 200) {Q : Option Value → px_H → Prop} : ∀ (m k : Nat) (a : Nat × Int32 × Int32) (Z : Nat → Int32) (o5 o6 : Option Value), k + m = T + 1 → (∀ (Z' : Nat → Int32) (o4 : Nat) (o5 o6 : Option Value), px_same Z Z' → px_PW 5 pc_105 Q 79 [some (.ref 0), some (.int (nI (s_bst (fun s => c_nar F R (nI s)) (fun s => c_cuts F R (nI s)) m k a).1)), some (.int (s_bst (fun s => c_nar F R (nI s)) (fun s => c_cuts F R (nI s)) m k a).2.1), some (.int (s_bst (fun s => c_nar F R (nI s)) (fun s => c_cuts F R (nI s)) m k a).2.2), some (.int (nI o4)), o5, o6] [] (px_CH Z' N F, [])) → px_PW 5 pc_105 Q 17 [some (.ref 0), some (.int (nI a.1)), some (.int a.2.1), some (.int a.2.2), some (.int (nI k)), o5, o6] [] (px_CH Z N F, [])
  | m, k, a, Z, o5, o6, hk, H => by
    refine px_PW.steps kt_105.2 3 rfl ?_
    refine px_PW.callV kt_105.2 rfl rfl rfl rfl (cc_is (N := N) hw.1 1 (by decide)) (by decide) (fun v h1 q => ?_)
    obtain ⟨rfl, rfl⟩ := q
    refine px_PW.steps kt_105.2 1 rfl ?_
    refine px_PW.br (fun c0 => ?_) (fun c0 => ?_)
    · have c0 : ((F 0) 1) < (nI k) := of_decide_eq_true c0
      have c0 : T < k := by rw [hT] at c0; exact (nI_ltI (a := T) (b := k) (by omega) (by omega)).mp c0
      obtain rfl : m = 0 := by omega
      exact H Z k _ _ px_same.rf
    · have c0 : ¬ (((F 0) 1) < (nI k)) := of_decide_eq_false c0
      have c0 : ¬ (T < k) := fun q => c0 (by rw [hT]; exact (nI_ltI (a := T) (b := k) (by omega) (by omega)).mpr q)
      obtain ⟨m2, rfl⟩ : ∃ m2, m = m2 + 1 := ⟨m - 1, by omega⟩
      refine px_PW.steps kt_105.2 2 rfl ?_
      refine px_PW.callV kt_105.2 rfl rfl rfl rfl (cb_nar hw.1 hR hR8 _) (by decide) (fun v h1 q => ?_)
      obtain ⟨rfl, Z100, hZ100, rfl⟩ := q
      refine px_PW.steps kt_105.2 4 rfl ?_
      refine px_PW.br (fun c1 => ?_) (fun c1 => ?_)
      · have c1 : a.2.1 ≤ (c_nar F R (nI k)) := of_decide_eq_true c1
        refine px_PW.steps kt_105.2 2 rfl ?_
        refine px_PW.callV kt_105.2 rfl rfl rfl rfl (cb_cuts hw.1 hR hR8 _) (by decide) (fun v h1 q => ?_)
        obtain ⟨rfl, Z101, hZ101, rfl⟩ := q
        refine px_PW.steps kt_105.2 4 rfl ?_
        refine px_PW.br (fun c2 => ?_) (fun c2 => ?_)
        · have c2 : a.2.1 < (c_nar F R (nI k)) := of_decide_eq_true c2
          refine px_PW.steps kt_105.2 8 rfl ?_
          have e0 : s_bst (fun s => c_nar F R (nI s)) (fun s => c_cuts F R (nI s)) (m2 + 1) k a = s_bst (fun s => c_nar F R (nI s)) (fun s => c_cuts F R (nI s)) m2 (k + 1) (k, c_nar F R (nI k), c_cuts F R (nI k)) := congrArg (s_bst (fun s => c_nar F R (nI s)) (fun s => c_cuts F R (nI s)) m2 (k + 1)) ((if_neg (Int32.not_lt.mpr c1)).trans (if_pos c2))
          have g := c_bst_loop hw hR hR8 hT hT200 (Q := Q) m2 (k + 1) (k, c_nar F R (nI k), c_cuts F R (nI k)) Z101 (some (.int (c_nar F R (nI k)))) (some (.int (c_cuts F R (nI k)))) (by omega) (fun Z9 o4 o5 o6 hZ => by have h := H Z9 o4 o5 o6 ((hZ100.tr hZ101).tr hZ); rw [e0] at h; exact h)
          rw [nI_succ k] at g
          exact g
        · have c2 : ¬ (a.2.1 < (c_nar F R (nI k))) := of_decide_eq_false c2
          refine px_PW.steps kt_105.2 3 rfl ?_
          refine px_PW.br (fun c3 => ?_) (fun c3 => ?_)
          · have c3 : a.2.2 ≤ (c_cuts F R (nI k)) := of_decide_eq_true c3
            refine px_PW.steps kt_105.2 2 rfl ?_
            have e0 : s_bst (fun s => c_nar F R (nI s)) (fun s => c_cuts F R (nI s)) (m2 + 1) k a = s_bst (fun s => c_nar F R (nI s)) (fun s => c_cuts F R (nI s)) m2 (k + 1) a := congrArg (s_bst (fun s => c_nar F R (nI s)) (fun s => c_cuts F R (nI s)) m2 (k + 1)) ((if_neg (Int32.not_lt.mpr c1)).trans ((if_neg c2).trans (if_neg (Int32.not_lt.mpr c3))))
            have g := c_bst_loop hw hR hR8 hT hT200 (Q := Q) m2 (k + 1) a Z101 (some (.int (c_nar F R (nI k)))) (some (.int (c_cuts F R (nI k)))) (by omega) (fun Z9 o4 o5 o6 hZ => by have h := H Z9 o4 o5 o6 ((hZ100.tr hZ101).tr hZ); rw [e0] at h; exact h)
            rw [nI_succ k] at g
            exact g
          · have c3 : ¬ (a.2.2 ≤ (c_cuts F R (nI k))) := of_decide_eq_false c3
            refine px_PW.steps kt_105.2 8 rfl ?_
            have e0 : s_bst (fun s => c_nar F R (nI s)) (fun s => c_cuts F R (nI s)) (m2 + 1) k a = s_bst (fun s => c_nar F R (nI s)) (fun s => c_cuts F R (nI s)) m2 (k + 1) (k, c_nar F R (nI k), c_cuts F R (nI k)) := congrArg (s_bst (fun s => c_nar F R (nI s)) (fun s => c_cuts F R (nI s)) m2 (k + 1)) ((if_neg (Int32.not_lt.mpr c1)).trans ((if_neg c2).trans (if_pos (Int32.not_le.mp c3))))
            have g := c_bst_loop hw hR hR8 hT hT200 (Q := Q) m2 (k + 1) (k, c_nar F R (nI k), c_cuts F R (nI k)) Z101 (some (.int (c_nar F R (nI k)))) (some (.int (c_cuts F R (nI k)))) (by omega) (fun Z9 o4 o5 o6 hZ => by have h := H Z9 o4 o5 o6 ((hZ100.tr hZ101).tr hZ); rw [e0] at h; exact h)
            rw [nI_succ k] at g
            exact g
      · have c1 : ¬ (a.2.1 ≤ (c_nar F R (nI k))) := of_decide_eq_false c1
        refine px_PW.steps kt_105.2 3 rfl ?_
        have e0 : s_bst (fun s => c_nar F R (nI s)) (fun s => c_cuts F R (nI s)) (m2 + 1) k a = s_bst (fun s => c_nar F R (nI s)) (fun s => c_cuts F R (nI s)) m2 (k + 1) a := congrArg (s_bst (fun s => c_nar F R (nI s)) (fun s => c_cuts F R (nI s)) m2 (k + 1)) (if_pos (Int32.not_le.mp c1))
        have g := c_bst_loop hw hR hR8 hT hT200 (Q := Q) m2 (k + 1) a Z100 (some (.int (c_nar F R (nI k)))) (o6) (by omega) (fun Z9 o4 o5 o6 hZ => by have h := H Z9 o4 o5 o6 (hZ100.tr hZ); rw [e0] at h; exact h)
        rw [nI_succ k] at g
        exact g
theorem cc_bst {Z N : Nat → Int32} {F : Nat → Nat → Int32} (hw : px_cw N) {R T : Nat} (hR : F 0 4 = nI R) (hR8 : R ≤ 8) (hT : F 0 1 = nI T) (hT200 : T ≤ 200) (hT1 : 1 ≤ T) : px_PM 6 105 [.ref 0] (px_CH Z N F, []) (fun r h' => r = some (.int (nI (s_bst (fun s => c_nar F R (nI s)) (fun s => c_cuts F R (nI s)) (T - 1) 2 (1, c_nar F R 1, c_cuts F R 1)).1)) ∧ ∃ Z', px_same Z Z' ∧ h' = (px_CH Z' N F, [])) := by
  refine px_PM.start (nL := 7) (code := pc_105) rfl rfl ?_
  refine px_PW.steps kt_105.2 4 rfl ?_
  refine px_PW.callV kt_105.2 rfl rfl rfl rfl (cb_nar hw.1 hR hR8 _) (by decide) (fun v h1 q => ?_)
  obtain ⟨rfl, Z100, hZ100, rfl⟩ := q
  refine px_PW.steps kt_105.2 3 rfl ?_
  refine px_PW.callV kt_105.2 rfl rfl rfl rfl (cb_cuts hw.1 hR hR8 _) (by decide) (fun v h1 q => ?_)
  obtain ⟨rfl, Z101, hZ101, rfl⟩ := q
  refine px_PW.steps kt_105.2 3 rfl ?_
  refine c_bst_loop hw hR hR8 hT hT200 (T - 1) 2 (1, c_nar F R 1, c_cuts F R 1) Z101 none none (by omega) (fun Z9 o4 o5 o6 hZ => ?_)
  refine px_PW.steps kt_105.2 1 rfl ?_
  exact px_PW.ret kt_105.2 rfl rfl ⟨rfl, Z9, ((hZ100.tr hZ101).tr hZ), rfl⟩
def s_best (R T : Nat) (Z N : Nat → Int32) (F : Nat → Nat → Int32) (what : Int32) : Int32 := (if what < 0 then (-1000000000 - 1) else (if what ≤ 2 then (if what = 0 then (nI (s_bst (fun s => c_nar F R (nI s)) (fun s => c_cuts F R (nI s)) (T - 1) 2 (1, c_nar F R 1, c_cuts F R 1)).1) else (if what = 1 then (c_nar F R (nI (s_bst (fun s => c_nar F R (nI s)) (fun s => c_cuts F R (nI s)) (T - 1) 2 (1, c_nar F R 1, c_cuts F R 1)).1)) else (c_cuts F R (nI (s_bst (fun s => c_nar F R (nI s)) (fun s => c_cuts F R (nI s)) (T - 1) 2 (1, c_nar F R 1, c_cuts F R 1)).1)))) else (-1000000000 - 1)))
theorem kc_best {Z N : Nat → Int32} {F : Nat → Nat → Int32} (hw : px_cw N) {R T : Nat} (hR : F 0 4 = nI R) (hR8 : R ≤ 8) (hT : F 0 1 = nI T) (hT200 : T ≤ 200) (hT1 : 1 ≤ T) (what : Int32) : px_PM 7 67 [.ref 0, .int what] (px_CH Z N F, []) (fun r h' => r = some (.int (s_best R T Z N F what)) ∧ ∃ Z' N' F', px_sc Z N F Z' N' F' ∧ h' = (px_CH Z' N' F', [])) := by
  refine px_PM.start (nL := 3) (code := pc_67) rfl rfl ?_
  refine px_PW.steps kt_67.2 2 rfl ?_
  refine px_PW.br (fun c0 => ?_) (fun c0 => ?_)
  · have c0 : what < 0 := of_decide_eq_true c0
    refine px_PW.steps kt_67.2 2 rfl ?_
    refine px_PW.callV kt_67.2 rfl rfl rfl rfl (cc_error hw.2.2.1 1 (by decide)) (by decide) (fun v h1 q => ?_)
    obtain ⟨rfl, rfl⟩ := q
    refine px_PW.ret kt_67.2 rfl rfl ?_
    have E : s_best R T Z N F what = (-1000000000 - 1) := if_pos c0
    rw [E]
    exact ⟨rfl, _, _, _, px_sc.err, rfl⟩
  · have c0 : ¬ (what < 0) := of_decide_eq_false c0
    refine px_PW.steps kt_67.2 3 rfl ?_
    refine px_PW.br (fun c1 => ?_) (fun c1 => ?_)
    · have c1 : what ≤ 2 := of_decide_eq_true c1
      refine px_PW.steps kt_67.2 1 rfl ?_
      refine px_PW.callV kt_67.2 rfl rfl rfl rfl (cc_bst hw hR hR8 hT hT200 hT1) (by decide) (fun v h1 q => ?_)
      obtain ⟨rfl, Z200, hZ200, rfl⟩ := q
      refine px_PW.steps kt_67.2 3 rfl ?_
      refine px_PW.br (fun c2 => ?_) (fun c2 => ?_)
      · have c2 : ¬ (what = 0) := of_decide_eq_false (px_nt c2)
        refine px_PW.steps kt_67.2 3 rfl ?_
        refine px_PW.br (fun c3 => ?_) (fun c3 => ?_)
        · have c3 : ¬ (what = 1) := of_decide_eq_false (px_nt c3)
          refine px_PW.steps kt_67.2 2 rfl ?_
          refine px_PW.callV kt_67.2 rfl rfl rfl rfl (cb_cuts hw.1 hR hR8 _) (by decide) (fun v h1 q => ?_)
          obtain ⟨rfl, Z101, hZ101, rfl⟩ := q
          refine px_PW.ret kt_67.2 rfl rfl ?_
          have E : s_best R T Z N F what = (c_cuts F R (nI (s_bst (fun s => c_nar F R (nI s)) (fun s => c_cuts F R (nI s)) (T - 1) 2 (1, c_nar F R 1, c_cuts F R 1)).1)) := (if_neg c0).trans ((if_pos c1).trans ((if_neg c2).trans (if_neg c3)))
          rw [E]
          exact ⟨rfl, _, _, _, (px_sc.z hZ200).tr (px_sc.z hZ101), rfl⟩
        · have c3 : what = 1 := of_decide_eq_true (px_nf c3)
          refine px_PW.steps kt_67.2 2 rfl ?_
          refine px_PW.callV kt_67.2 rfl rfl rfl rfl (cb_nar hw.1 hR hR8 _) (by decide) (fun v h1 q => ?_)
          obtain ⟨rfl, Z101, hZ101, rfl⟩ := q
          refine px_PW.steps kt_67.2 1 rfl ?_
          refine px_PW.ret kt_67.2 rfl rfl ?_
          have E : s_best R T Z N F what = (c_nar F R (nI (s_bst (fun s => c_nar F R (nI s)) (fun s => c_cuts F R (nI s)) (T - 1) 2 (1, c_nar F R 1, c_cuts F R 1)).1)) := (if_neg c0).trans ((if_pos c1).trans ((if_neg c2).trans (if_pos c3)))
          rw [E]
          exact ⟨rfl, _, _, _, (px_sc.z hZ200).tr (px_sc.z hZ101), rfl⟩
      · have c2 : what = 0 := of_decide_eq_true (px_nf c2)
        refine px_PW.steps kt_67.2 1 rfl ?_
        refine px_PW.ret kt_67.2 rfl rfl ?_
        have E : s_best R T Z N F what = (nI (s_bst (fun s => c_nar F R (nI s)) (fun s => c_cuts F R (nI s)) (T - 1) 2 (1, c_nar F R 1, c_cuts F R 1)).1) := (if_neg c0).trans ((if_pos c1).trans (if_pos c2))
        rw [E]
        exact ⟨rfl, _, _, _, px_sc.z hZ200, rfl⟩
    · have c1 : ¬ (what ≤ 2) := of_decide_eq_false c1
      refine px_PW.steps kt_67.2 2 rfl ?_
      refine px_PW.callV kt_67.2 rfl rfl rfl rfl (cc_error hw.2.2.1 1 (by decide)) (by decide) (fun v h1 q => ?_)
      obtain ⟨rfl, rfl⟩ := q
      refine px_PW.ret kt_67.2 rfl rfl ?_
      have E : s_best R T Z N F what = (-1000000000 - 1) := (if_neg c0).trans (if_neg c1)
      rw [E]
      exact ⟨rfl, _, _, _, px_sc.err, rfl⟩
/-- of m STARTS from k on those by which the narrowest piece is v or more -/
def s_odd (nar : Nat → Int32) (v : Int32) : Nat → Nat → Nat → Nat
  | 0, _, n => n
  | m + 1, k, n => s_odd nar v m (k + 1) (if nar k < v then n else n + 1)
theorem s_odd_le (nar : Nat → Int32) (v : Int32) : ∀ (m k n : Nat), s_odd nar v m k n ≤ n + m
  | 0, _, n => Nat.le_refl n
  | m + 1, k, n => by
    unfold s_odd
    split
    · have h := s_odd_le nar v m (k + 1) n; omega
    · have h := s_odd_le nar v m (k + 1) (n + 1); omega
theorem c_odd_loop {N : Nat → Int32} {F : Nat → Nat → Int32} (hw : px_cw N) {R T : Nat} (hR : F 0 4 = nI R) (hR8 : R ≤ 8) (hT : F 0 1 = nI T) (hT200 : T ≤ 200) {v part : Int32} {Q : Option Value → px_H → Prop} : ∀ (m k n : Nat) (Z : Nat → Int32), k + m = T + 1 → (∀ (Z' : Nat → Int32) (o4 : Nat), px_same Z Z' → px_PW 5 pc_71 Q 60 [some (.ref 0), some (.int v), some (.int part), some (.int (nI (s_odd (fun s => c_nar F R (nI s)) v m k n))), some (.int (nI o4))] [] (px_CH Z' N F, [])) → px_PW 5 pc_71 Q 31 [some (.ref 0), some (.int v), some (.int part), some (.int (nI n)), some (.int (nI k))] [] (px_CH Z N F, [])
  | m, k, n, Z, hk, H => by
    refine px_PW.steps kt_71.2 3 rfl ?_
    refine px_PW.callV kt_71.2 rfl rfl rfl rfl (cc_is (N := N) hw.1 1 (by decide)) (by decide) (fun v h1 q => ?_)
    obtain ⟨rfl, rfl⟩ := q
    refine px_PW.steps kt_71.2 1 rfl ?_
    refine px_PW.br (fun c0 => ?_) (fun c0 => ?_)
    · have c0 : ((F 0) 1) < (nI k) := of_decide_eq_true c0
      have c0 : T < k := by rw [hT] at c0; exact (nI_ltI (a := T) (b := k) (by omega) (by omega)).mp c0
      obtain rfl : m = 0 := by omega
      exact H Z k px_same.rf
    · have c0 : ¬ (((F 0) 1) < (nI k)) := of_decide_eq_false c0
      have c0 : ¬ (T < k) := fun q => c0 (by rw [hT]; exact (nI_ltI (a := T) (b := k) (by omega) (by omega)).mpr q)
      obtain ⟨m2, rfl⟩ : ∃ m2, m = m2 + 1 := ⟨m - 1, by omega⟩
      refine px_PW.steps kt_71.2 2 rfl ?_
      refine px_PW.callV kt_71.2 rfl rfl rfl rfl (cb_nar hw.1 hR hR8 _) (by decide) (fun v h1 q => ?_)
      obtain ⟨rfl, Z100, hZ100, rfl⟩ := q
      refine px_PW.steps kt_71.2 2 rfl ?_
      refine px_PW.br (fun c1 => ?_) (fun c1 => ?_)
      · have c1 : (c_nar F R (nI k)) < v := of_decide_eq_true c1
        refine px_PW.steps kt_71.2 2 rfl ?_
        have e0 : s_odd (fun s => c_nar F R (nI s)) v (m2 + 1) k n = s_odd (fun s => c_nar F R (nI s)) v m2 (k + 1) n := congrArg (s_odd (fun s => c_nar F R (nI s)) v m2 (k + 1)) (if_pos c1)
        have g := c_odd_loop hw hR hR8 hT hT200 (v := v) (part := part) (Q := Q) m2 (k + 1) n Z100 (by omega) (fun Z9 o4 hZ => by have h := H Z9 o4 (hZ100.tr hZ); rw [e0] at h; exact h)
        rw [nI_succ k] at g
        exact g
      · have c1 : ¬ ((c_nar F R (nI k)) < v) := of_decide_eq_false c1
        refine px_PW.steps kt_71.2 3 rfl ?_
        have e0 : s_odd (fun s => c_nar F R (nI s)) v (m2 + 1) k n = s_odd (fun s => c_nar F R (nI s)) v m2 (k + 1) (n + 1) := congrArg (s_odd (fun s => c_nar F R (nI s)) v m2 (k + 1)) (if_neg c1)
        have g := c_odd_loop hw hR hR8 hT hT200 (v := v) (part := part) (Q := Q) m2 (k + 1) (n + 1) Z100 (by omega) (fun Z9 o4 hZ => by have h := H Z9 o4 (hZ100.tr hZ); rw [e0] at h; exact h)
        rw [nI_succ k, nI_succ n] at g
        exact g
theorem px_cdx {x y : Nat} (hx : x < 1000) (hy : y < 1000) {a b : Int32} {h : px_H} (ha : a = nI x) (hb : b = nI y) : px_PM 2 99 [.int a, .int b] h (fun r h' => r = some (.int (nI (zz_cd x y y))) ∧ h' = h) := by
  subst ha hb
  exact cc_cd hx hy h
def s_odds (R T : Nat) (Z N : Nat → Int32) (F : Nat → Nat → Int32) (v : Int32) (part : Int32) : Int32 := (if v < 0 then (-1000000000 - 1) else (if 200 < v then (-1000000000 - 1) else (if part < 0 then (-1000000000 - 1) else (if part ≤ 1 then (if part = 0 then (i_quo (nI (s_odd (fun s => c_nar F R (nI s)) v T 1 0)) (nI (zz_cd (s_odd (fun s => c_nar F R (nI s)) v T 1 0) T T))) else (i_quo ((F 0) 1) (nI (zz_cd (s_odd (fun s => c_nar F R (nI s)) v T 1 0) T T)))) else (-1000000000 - 1)))))
theorem kc_odds {Z N : Nat → Int32} {F : Nat → Nat → Int32} (hw : px_cw N) {R T : Nat} (hR : F 0 4 = nI R) (hR8 : R ≤ 8) (hT : F 0 1 = nI T) (hT200 : T ≤ 200) (v : Int32) (part : Int32) : px_PM 6 71 [.ref 0, .int v, .int part] (px_CH Z N F, []) (fun r h' => r = some (.int (s_odds R T Z N F v part)) ∧ ∃ Z' N' F', px_sc Z N F Z' N' F' ∧ h' = (px_CH Z' N' F', [])) := by
  refine px_PM.start (nL := 5) (code := pc_71) rfl rfl ?_
  refine px_PW.steps kt_71.2 2 rfl ?_
  refine px_PW.br (fun c0 => ?_) (fun c0 => ?_)
  · have c0 : v < 0 := of_decide_eq_true c0
    refine px_PW.steps kt_71.2 2 rfl ?_
    refine px_PW.callV kt_71.2 rfl rfl rfl rfl (cc_error hw.2.2.1 1 (by decide)) (by decide) (fun v h1 q => ?_)
    obtain ⟨rfl, rfl⟩ := q
    refine px_PW.ret kt_71.2 rfl rfl ?_
    have E : s_odds R T Z N F v part = (-1000000000 - 1) := if_pos c0
    rw [E]
    exact ⟨rfl, _, _, _, px_sc.err, rfl⟩
  · have c0 : ¬ (v < 0) := of_decide_eq_false c0
    refine px_PW.steps kt_71.2 3 rfl ?_
    refine px_PW.br (fun c1 => ?_) (fun c1 => ?_)
    · have c1 : 200 < v := of_decide_eq_true c1
      refine px_PW.steps kt_71.2 2 rfl ?_
      refine px_PW.callV kt_71.2 rfl rfl rfl rfl (cc_error hw.2.2.1 1 (by decide)) (by decide) (fun v h1 q => ?_)
      obtain ⟨rfl, rfl⟩ := q
      refine px_PW.ret kt_71.2 rfl rfl ?_
      have E : s_odds R T Z N F v part = (-1000000000 - 1) := (if_neg c0).trans (if_pos c1)
      rw [E]
      exact ⟨rfl, _, _, _, px_sc.err, rfl⟩
    · have c1 : ¬ (200 < v) := of_decide_eq_false c1
      refine px_PW.steps kt_71.2 2 rfl ?_
      refine px_PW.br (fun c2 => ?_) (fun c2 => ?_)
      · have c2 : part < 0 := of_decide_eq_true c2
        refine px_PW.steps kt_71.2 2 rfl ?_
        refine px_PW.callV kt_71.2 rfl rfl rfl rfl (cc_error hw.2.2.1 1 (by decide)) (by decide) (fun v h1 q => ?_)
        obtain ⟨rfl, rfl⟩ := q
        refine px_PW.ret kt_71.2 rfl rfl ?_
        have E : s_odds R T Z N F v part = (-1000000000 - 1) := (if_neg c0).trans ((if_neg c1).trans (if_pos c2))
        rw [E]
        exact ⟨rfl, _, _, _, px_sc.err, rfl⟩
      · have c2 : ¬ (part < 0) := of_decide_eq_false c2
        refine px_PW.steps kt_71.2 3 rfl ?_
        refine px_PW.br (fun c3 => ?_) (fun c3 => ?_)
        · have c3 : part ≤ 1 := of_decide_eq_true c3
          refine px_PW.steps kt_71.2 4 rfl ?_
          refine c_odd_loop hw hR hR8 hT hT200 T 1 0 Z (by omega) (fun Z9 o4 hZ => ?_)
          refine px_PW.steps kt_71.2 2 rfl ?_
          refine px_PW.br (fun c4 => ?_) (fun c4 => ?_)
          · have c4 : ¬ (part = 0) := of_decide_eq_false (px_nt c4)
            refine px_PW.steps kt_71.2 2 rfl ?_
            refine px_PW.callV kt_71.2 rfl rfl rfl rfl (cc_is (N := N) hw.1 1 (by decide)) (by decide) (fun v h1 q => ?_)
            obtain ⟨rfl, rfl⟩ := q
            refine px_PW.steps kt_71.2 3 rfl ?_
            refine px_PW.callV kt_71.2 rfl rfl rfl rfl (cc_is (N := N) hw.1 1 (by decide)) (by decide) (fun v h1 q => ?_)
            obtain ⟨rfl, rfl⟩ := q
            refine px_PW.callS kt_71.2 rfl rfl rfl (px_cdx (x := (s_odd (fun s => c_nar F R (nI s)) v T 1 0)) (y := T) (by have := s_odd_le (fun s => c_nar F R (nI s)) v T 1 0; omega) (by omega) rfl hT) (by decide) (fun v h1 q => ?_)
            obtain ⟨rfl, rfl⟩ := q
            refine px_PW.callS kt_71.2 rfl rfl rfl (cc_quot _ _ _) (by decide) (fun v h1 q => ?_)
            obtain ⟨rfl, rfl⟩ := q
            refine px_PW.ret kt_71.2 rfl rfl ?_
            have E : s_odds R T Z N F v part = (i_quo ((F 0) 1) (nI (zz_cd (s_odd (fun s => c_nar F R (nI s)) v T 1 0) T T))) := (if_neg c0).trans ((if_neg c1).trans ((if_neg c2).trans ((if_pos c3).trans (if_neg c4))))
            rw [E]
            exact ⟨rfl, _, _, _, px_sc.z hZ, rfl⟩
          · have c4 : part = 0 := of_decide_eq_true (px_nf c4)
            refine px_PW.steps kt_71.2 5 rfl ?_
            refine px_PW.callV kt_71.2 rfl rfl rfl rfl (cc_is (N := N) hw.1 1 (by decide)) (by decide) (fun v h1 q => ?_)
            obtain ⟨rfl, rfl⟩ := q
            refine px_PW.callS kt_71.2 rfl rfl rfl (px_cdx (x := (s_odd (fun s => c_nar F R (nI s)) v T 1 0)) (y := T) (by have := s_odd_le (fun s => c_nar F R (nI s)) v T 1 0; omega) (by omega) rfl hT) (by decide) (fun v h1 q => ?_)
            obtain ⟨rfl, rfl⟩ := q
            refine px_PW.callS kt_71.2 rfl rfl rfl (cc_quot _ _ _) (by decide) (fun v h1 q => ?_)
            obtain ⟨rfl, rfl⟩ := q
            refine px_PW.ret kt_71.2 rfl rfl ?_
            have E : s_odds R T Z N F v part = (i_quo (nI (s_odd (fun s => c_nar F R (nI s)) v T 1 0)) (nI (zz_cd (s_odd (fun s => c_nar F R (nI s)) v T 1 0) T T))) := (if_neg c0).trans ((if_neg c1).trans ((if_neg c2).trans ((if_pos c3).trans (if_pos c4))))
            rw [E]
            exact ⟨rfl, _, _, _, px_sc.z hZ, rfl⟩
        · have c3 : ¬ (part ≤ 1) := of_decide_eq_false c3
          refine px_PW.steps kt_71.2 2 rfl ?_
          refine px_PW.callV kt_71.2 rfl rfl rfl rfl (cc_error hw.2.2.1 1 (by decide)) (by decide) (fun v h1 q => ?_)
          obtain ⟨rfl, rfl⟩ := q
          refine px_PW.ret kt_71.2 rfl rfl ?_
          have E : s_odds R T Z N F v part = (-1000000000 - 1) := (if_neg c0).trans ((if_neg c1).trans ((if_neg c2).trans (if_neg c3)))
          rw [E]
          exact ⟨rfl, _, _, _, px_sc.err, rfl⟩
