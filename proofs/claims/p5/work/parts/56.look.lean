theorem zz_rowq {x t : Int32} {M : Nat} (hM : x = nI M) (hM6 : M ≤ 60) : ¬ (t < 0 ∨ x ≤ t) ↔ 0 ≤ t ∧ t ≤ x - 1 := by
  have e : (x - 1).toInt = (M : Int) - 1 := zz_sub1 (b := 1) hM (by decide) (by omega)
  have e2 : x.toInt = M := by rw [hM, nI_toInt (by omega)]
  rw [not_or, Int32.not_lt, Int32.not_le, Int32.lt_iff_toInt_lt, Int32.le_iff_toInt_le, Int32.le_iff_toInt_le, e, e2]
  omega
theorem zz_rown {x t : Int32} {M : Nat} (hM : x = nI M) (hM6 : M ≤ 60) (c : ¬ (t < 0 ∨ x ≤ t)) : ∃ r : Nat, r < M ∧ t = nI r := by
  rw [not_or] at c
  obtain ⟨n, hn, rfl⟩ := nI_of c.1
  refine ⟨n, ?_, rfl⟩
  rw [hM] at c
  exact Nat.lt_of_not_le (fun q => c.2 ((nI_leI (a := M) (b := n) (by omega) (by omega)).mpr q))
theorem RR.S {Z N Zm : Nat → Int32} {F G : Nat → Nat → Int32} (h : RR Z N F Zm G) : ∃ S : Nat, 1 ≤ S ∧ S ≤ fT (G 0) ∧ G 0 6 = nI S ∧ F 0 6 = nI S ∧ upd (G 0) 6 (nI S) = G 0 := by
  have hg := h.wall
  obtain ⟨L, T, J, R, B, S, h0, h1', h2', h4, h5, h6, a1, a2, a3, a4, a5, a6, a7, a8, a9, a10, k1, k2⟩ := hg
  have hTT : fT (G 0) = T := by unfold fT; rw [h1', nI_clamp (by omega)]
  have e6 : F 0 6 = nI S := (h.F0 (by decide)).trans h6
  refine ⟨S, a9, by omega, h6, e6, ?_⟩
  funext j
  by_cases c : j = 6
  · subst c; rw [px_upd_self, h6]
  · rw [px_upd_ne _ _ c]
theorem RR.lay {Z N Zm : Nat → Int32} {F G : Nat → Nat → Int32} (h : RR Z N F Zm G) (Z2 : Nat → Int32) {r : Nat} (hr : r < 8) : rw_ok (c_lay Z2 F (nI r) (F 0 6)) (fe (G 0) r) (fw (G 0) r) (fT (G 0)) (fJ (G 0)) := by
  obtain ⟨S, s1, s2, -, e6, eU⟩ := h.S
  have k := c_lay_ok (fun i hi => h.F0 hi) h.wall Z2 hr s1 s2
  rw [eU] at k
  rw [e6]
  exact k
theorem RR.first {Z N Zm : Nat → Int32} {F G : Nat → Nat → Int32} (h : RR Z N F Zm G) {r : Nat} (hr : r < 8) : c_first F (nI r) (F 0 6) = s_mfst (G 0) (nI r) := by
  obtain ⟨S, s1, s2, -, e6, eU⟩ := h.S
  have k := c_first_m (fun i hi => h.F0 hi) h.wall hr s1 s2
  rw [eU] at k
  rw [e6]
  exact k
theorem st_piece (row i : Int32) : px_st 61 168 [.int row, .int i] True := by
  intro Z N F Zm G h
  refine px_st_of (kc_piece h.1 row i) (by decide) (kc_mpiece (g_ok h.wall) row i) (by decide) h (fun _ => ?_)
  unfold s_piece s_mpiece
  rw [h.F0 (i := 4) (by decide)]
  obtain ⟨hR, hR1, hR8⟩ := (g_TJR h.wall).2.2
  have hq := zz_rowq (t := row) hR (by omega)
  by_cases c : row < 0 ∨ G 0 4 ≤ row
  · rw [if_pos c, if_neg (fun q => hq.mpr q c)]
  · rw [if_neg c, if_pos (hq.mp c)]
    obtain ⟨r, hr, rfl⟩ := zz_rown hR (by omega) c
    have k := h.lay Z (r := r) (by omega)
    rw [nI_clamp (by omega), k.1.2.2.2.2]
    by_cases c1 : -1 ≤ i
    · rw [if_pos c1, if_pos c1]
      by_cases c2 : i = -1
      · rw [if_pos c2, if_pos c2]; rfl
      · rw [if_neg c2, if_neg c2]
        by_cases c3 : nI (fP (G 0) r) ≤ i
        · rw [if_pos c3]; exact if_pos c3
        · rw [if_neg c3]
          refine (if_neg c3).trans ?_
          have hi0 : ¬ (i < 0) := by
            have d1 : (-1 : Int32).toInt = -1 := by decide
            rw [Int32.le_iff_toInt_le, d1] at c1
            have d2 : ¬ (i.toInt = -1) := fun q => c2 (Int32.toInt_inj.mp (q.trans d1.symm))
            rw [Int32.lt_iff_toInt_lt, show (0 : Int32).toInt = 0 from rfl]
            omega
          obtain ⟨n, hn, rfl⟩ := nI_of hi0
          have hp := (g_row h.wall (show r < 8 by omega))
          have hP : fP (G 0) r < 100000 := by
            have := ((g_ok h.wall).2.2.2.2.2.2 r (by omega)).2.2.2.2.1
            omega
          have hl : n < fP (G 0) r := Nat.lt_of_not_le (fun q => c3 ((nI_leI (by omega) (by omega)).mpr q))
          rw [nI_clamp (by omega)]
          exact w_wid_n k hl
    · rw [if_neg c1, if_neg c1]
theorem st_rowIs (row what : Int32) : px_st 62 169 [.int row, .int what] True := by
  intro Z N F Zm G h
  refine px_st_of (kc_rowIs h.1 row what) (by decide) (kc_mrowIs (g_ok h.wall) row what) (by decide) h (fun _ => ?_)
  unfold s_rowIs s_mrowIs
  rw [h.F0 (i := 4) (by decide)]
  obtain ⟨hR, hR1, hR8⟩ := (g_TJR h.wall).2.2
  have hT := (g_TJR h.wall).1.1
  have hq := zz_rowq (t := row) hR (by omega)
  by_cases c : row < 0 ∨ G 0 4 ≤ row
  · rw [if_pos c, if_neg (fun q => hq.mpr q c)]
  · rw [if_neg c, if_pos (hq.mp c)]
    obtain ⟨r, hr, rfl⟩ := zz_rown hR (by omega) c
    have k := h.lay Z (r := r) (by omega)
    rw [nI_clamp (by omega), w_cuts_n k, w_nar_n k, h.first (by omega), c_len_m (fun i hi => h.F0 hi), hT]
    by_cases c1 : 0 ≤ what ∧ what ≤ 3
    · rw [if_pos c1]
      obtain ⟨ew, hw⟩ := px_in5 (n := 3) (by decide) c1
      generalize what.toNatClampNeg = v at ew hw
      subst ew
      rcases (show v = 0 ∨ v = 1 ∨ v = 2 ∨ v = 3 by omega) with rfl | rfl | rfl | rfl
      · rw [if_pos (show nI 0 = 0 from rfl), if_pos (show nI 0 = 0 from rfl)]
      · rw [if_neg (show ¬ (nI 1 = 0) by decide), if_pos (show nI 1 = 1 from rfl), if_neg (show ¬ (nI 1 = 0) by decide), if_pos (show nI 1 = 1 from rfl)]
        rfl
      · rw [if_neg (show ¬ (nI 2 = 0) by decide), if_neg (show ¬ (nI 2 = 1) by decide), if_pos (show nI 2 = 2 from rfl), if_neg (show ¬ (nI 2 = 0) by decide), if_neg (show ¬ (nI 2 = 1) by decide), if_pos (show nI 2 = 2 from rfl)]
        rfl
      · rw [if_neg (show ¬ (nI 3 = 0) by decide), if_neg (show ¬ (nI 3 = 1) by decide), if_neg (show ¬ (nI 3 = 2) by decide), if_pos (show nI 3 = 3 from rfl), if_neg (show ¬ (nI 3 = 0) by decide), if_neg (show ¬ (nI 3 = 1) by decide), if_neg (show ¬ (nI 3 = 2) by decide)]
    · rw [if_neg c1]
      have n0 : what ≠ 0 := fun q => c1 (by subst q; decide)
      have n1 : what ≠ 1 := fun q => c1 (by subst q; decide)
      have n2 : what ≠ 2 := fun q => c1 (by subst q; decide)
      have n3 : what ≠ 3 := fun q => c1 (by subst q; decide)
      rw [if_neg n0, if_neg n1, if_neg n2, if_neg n3]
