/-! judge, fits: equal answers (66.t7: by hand) -/
/-- what a SHEET's numbers say of the laid row: both say the same -/
theorem RR.rff {Z N Zm : Nat → Int32} {F G : Nat → Nat → Int32} (h : RR Z N F Zm G) {k : Nat} (hk : k < 4) (hz : ¬ (G 11 k = 0)) {S : Nat} (hS : G 12 k = nI S) (hS24 : S ≤ 24) {s : Nat} (h1 : 1 ≤ s) (h2 : s ≤ fT (G 0)) (Z2 : Nat → Int32) (e : Nat) (he : fe (G 0) 0 = e) : zz_run (s_rff (c_lay Z2 F 0 (nI s)) F k) (min S (fP (upd (G 0) 6 (nI s)) 0)) 0 = zz_run (s_mro G k (r_B e (fw (upd (G 0) 6 (nI s)) 0) (fT (G 0)) (fJ (G 0)))) (min S (fP (upd (G 0) 6 (nI s)) 0)) 0 := by
  subst he
  have k1 : rw_ok (c_lay Z2 F 0 (nI s)) (fe (G 0) 0) (fw (upd (G 0) 6 (nI s)) 0) (fT (G 0)) (fJ (G 0)) := c_lay_ok (fun i hi => h.F0 hi) h.wall Z2 (r := 0) (by decide) h1 h2
  obtain ⟨-, -, -, hsh⟩ := h.2.2.2.2.2.1 k hk
  have hf := (hsh hz).2
  refine zz_run_congr _ _ (fun j _ hj => ?_)
  have hj1 : j < S := by omega
  have hj2 : j < fP (upd (G 0) 6 (nI s)) 0 := by omega
  unfold s_rff s_mro
  rw [w_wid_n k1 hj2, hf j (by rw [hS, nI_clamp (by omega)]; exact hj1)]
theorem st_judgeT (sheet : Int32) : px_st 79 200 [.int sheet] True := by
  intro Z N F Zm G h
  obtain ⟨⟨hT, hT1, hT2⟩, hJ, hR, hR1, hR8⟩ := g_TJR h.wall
  rcases zz_sheet sheet with c | ⟨k, hk, rfl⟩
  · exact px_st_of (kc_judgeB h.1 sheet c) (by decide) (kc_mjudgeB sheet c) (by decide) h (fun _ => rfl)
  · obtain ⟨S, s1, s2⟩ := h.SN hk
    obtain ⟨S2, t1, t2⟩ := h.SG hk
    have k2 := ((g_ok h.wall).2.2.2.2.2.2 0 (by omega)).2.2.2.2.1
    refine px_st_of (kc_judge h.1 k (P := fP (G 0) 0) hk s1 s2 (h.lay (fun _ => 0) (r := 0) (by decide)).1.2.2.2.2 (by omega)) (by decide) (kc_mjudge hk t1 t2 (g_ok h.wall) hR1) (by decide) h (fun _ => ?_)
    obtain ⟨g1, g2, g3, g4⟩ := h.2.2.2.2.2.1 k hk
    unfold s_judge s_mjudge s_lacks
    rw [g1]
    by_cases c : G 11 k = 0
    · rw [if_pos c, if_pos c, if_neg (by decide)]
    · rw [if_neg c, if_neg c, if_pos rfl]
      have eS : S = S2 := by
        have e := (g4 c).1
        rw [s1, t1] at e
        exact (nI_eq (by omega) (by omega)).mp e
      subst eS
      obtain ⟨q, q1, q2, q3, q4, q5⟩ := h.S
      have g := h.rff hk c t1 t2 q1 q2 Z _ rfl
      rw [q5] at g
      rw [q4]
      exact congrArg nI g
theorem s_fit_cg {g g' : Nat → Bool} : ∀ (s : Nat) (a : Int32 × Int32), (∀ j : Nat, 1 ≤ j → j ≤ s → g j = g' j) → s_fit g s a = s_fit g' s a
  | 0, _, _ => rfl
  | s + 1, a, h => by
    unfold s_fit
    rw [h (s + 1) (by omega) (Nat.le_refl _)]
    exact s_fit_cg s _ (fun j h1 h2 => h j h1 (by omega))
theorem s_fit_n (g : Nat → Bool) : ∀ (s n : Nat) (x : Int32), ∃ m : Nat, m ≤ n + s ∧ (s_fit g s (nI n, x)).1 = nI m
  | 0, n, x => ⟨n, Nat.le_refl _, rfl⟩
  | s + 1, n, x => by
    unfold s_fit
    split
    · obtain ⟨m, h1, h2⟩ := s_fit_n g s (n + 1) (nI (s + 1))
      refine ⟨m, by omega, ?_⟩
      rw [← h2, nI_succ n]
    · obtain ⟨m, h1, h2⟩ := s_fit_n g s n x
      exact ⟨m, by omega, h2⟩
theorem st_fitsT (sheet what : Int32) : px_st 72 183 [.int sheet, .int what] True := by
  intro Z N F Zm G h
  obtain ⟨⟨hT, hT1, hT2⟩, hJ, hR, hR1, hR8⟩ := g_TJR h.wall
  rcases zz_sheet sheet with c | ⟨k, hk, rfl⟩
  · exact px_st_of (kc_fitsB h.1 sheet what c) (by decide) (kc_mfitsB sheet what c) (by decide) h (fun _ => (ite_self _).symm)
  · obtain ⟨S, s1, s2⟩ := h.SN hk
    obtain ⟨S2, t1, t2⟩ := h.SG hk
    refine px_st_of (kc_fits h.1 k (P := fun s => fP (upd (G 0) 6 (nI s)) 0) hk s1 s2 (fun s u1 u2 => ?_) ((h.F0 (by decide)).trans hT) hT2 what) (by decide) (kc_mfits hT hT2 (g_okS h.wall) hk t1 t2 hR1 what) (by decide) h (fun _ => ?_)
    · have k1 := c_lay_ok (fun i hi => h.F0 hi) h.wall (fun _ => 0) (r := 0) (by decide) u1 u2
      have k2 := ((g_okS h.wall s u1 u2).2.2.2.2.2.2 0 (by omega)).2.2.2.2.1
      exact ⟨k1.1.2.2.2.2, by omega⟩
    · obtain ⟨g1, g2, g3, g4⟩ := h.2.2.2.2.2.1 k hk
      unfold s_fits s_mfits s_lacks
      rw [g1, zz_01]
      by_cases cw : 0 ≤ what ∧ what ≤ 1
      · rw [if_pos cw, if_pos cw]
        by_cases c : G 11 k = 0
        · rw [if_pos c, if_pos c, if_neg (by decide)]
        · rw [if_neg c, if_neg c, if_pos rfl]
          have eS : S = S2 := by
            have e := (g4 c).1
            rw [s1, t1] at e
            exact (nI_eq (by omega) (by omega)).mp e
          subst eS
          have eg : s_fit (s_fitg S (fun s => fP (upd (G 0) 6 (nI s)) 0) F k) (fT (G 0)) (0, 0) = s_fit (r_fitG G k S (fT (G 0)) (fJ (G 0)) (fe (G 0)) (fun s => fw (upd (G 0) 6 (nI s))) (fun s => fP (upd (G 0) 6 (nI s)))) (fT (G 0)) (0, 0) := by
            refine s_fit_cg _ _ (fun j h1 h2 => ?_)
            unfold s_fitg r_fitG
            rw [h.rff hk c t1 t2 h1 h2 (fun _ => 0) _ rfl]
          rw [eg]
          obtain ⟨m, m1, m2⟩ := s_fit_n (r_fitG G k S (fT (G 0)) (fJ (G 0)) (fe (G 0)) (fun s => fw (upd (G 0) 6 (nI s))) (fun s => fP (upd (G 0) 6 (nI s)))) (fT (G 0)) 0 0
          have m2 : (s_fit (r_fitG G k S (fT (G 0)) (fJ (G 0)) (fe (G 0)) (fun s => fw (upd (G 0) 6 (nI s))) (fun s => fP (upd (G 0) 6 (nI s)))) (fT (G 0)) (0, 0)).1 = nI m := m2
          rw [m2]
          have ez : nI m ≤ 0 ↔ nI m = 0 := by
            have e1 := nI_leI (a := m) (b := 0) (by omega) (by omega)
            have e2 := nI_eq (a := m) (b := 0) (by omega) (by omega)
            rw [show (0 : Int32) = nI 0 from rfl, e1, e2]
            omega
          by_cases c0 : nI m = 0
          · rw [if_pos (ez.mpr c0), if_pos c0]
          · rw [if_neg (fun q => c0 (ez.mp q)), if_neg c0]
      · rw [if_neg cw, if_neg cw]
