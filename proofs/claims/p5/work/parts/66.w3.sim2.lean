/-! THE TWO READERS: every road (66.v2: by hand) -/
theorem q_Sim_C {P : Nat} {T : Nat → Int32} {u : Nat} (hu : u ≤ 1) (hP : P ≤ 60) (hb : ∀ i : Nat, i < P → ∃ b : Nat, b < 256 ∧ T i = nI b) : m_C P T u (q_Sim P T u) := by
  obtain ⟨S1, S2, S3, S4, S5, S6, S7, S8, S9, S10, S11, S12, S13, S14, S15, S16, S17, S18, S19⟩ := m_S_C P T u
  refine ⟨?_, ?_, ?_, ?_, ?_, ?_, ?_, ?_, ?_, ?_, ?_, ?_, ?_, ?_, ?_, ?_, ?_, ?_, ?_⟩
  · intro L a o l a' o' l' hL h
    have hb10 := m_bin10 hL
    have hL4 : L ≤ 4 := by rcases hL with rfl | rfl | rfl | rfl <;> omega
    refine q_mk1 hb10.1 (S1 L a o l a' o' l' hL h.1) (fun ha ho c p hp hr => ⟨fun q => (by cases q), fun _ => ?_⟩)
    exact (h.s1 hb10.2 ha ho c p hp (fun _ => q_lt_le (hr hL4) (q_nI_le (by omega) (by omega)))).2 rfl
  · intro L a o l a1 o1 l1 b a' o' l' hL h g
    have hb10 := m_bin10 hL
    have hL4 : L ≤ 4 := by rcases hL with rfl | rfl | rfl | rfl <;> omega
    refine q_mk1 hb10.1 (S2 L a o l a1 o1 l1 b a' o' l' hL h.1 g.1) (fun ha ho c p hp hr => ?_)
    obtain ⟨k1, k2, _, _, _, _, _, k7⟩ := h.1
    obtain ⟨e1, -⟩ := k7 rfl
    subst e1
    obtain ⟨t, R1, rfl, r1, A1⟩ := (h.s1 hb10.2 ha ho c p hp (fun _ => q_lt_le (hr hL4) (q_nI_le (by omega) (by omega)))).1 rfl
    have hg := g.s2 (k2 ha) ho R1 (t.map (q_enc u) ++ c) p (by omega) (hr hL4) (A1.down hL)
    refine ⟨fun q => ?_, fun q => ?_⟩
    · obtain ⟨t2, R2, e2, r2, A2⟩ := hg.1 q
      exact ⟨t2 ++ t, R2, by rw [e2, List.append_assoc], r1.tr r2, by rw [List.map_append, List.append_assoc]; exact A2⟩
    · obtain ⟨R2, r2, A2⟩ := hg.2 q
      exact ⟨R2, r1.tr r2, A2⟩
  · intro L a o l hL hs
    refine q_mk2 (S3 L a o l hL hs) (fun ha ho R0 c p hp hr A => ⟨fun _ => ⟨[], R0, rfl, q_run.rf, ?_⟩, fun q => (by cases q)⟩)
    obtain ⟨h1, h2, h3, h4, h5⟩ := A
    refine ⟨h1, h2, h3, fun L' hL' => ?_, h5⟩
    rcases Nat.eq_or_lt_of_le hL' with rfl | q
    · exact hs
    · exact h4 L' q
  · intro L a o l a' o' l' hL hs h
    have hb10 := m_bin10 hL
    have ha1 := m_sg_lt hs
    obtain ⟨e1, e2⟩ := q_rank_sg hs
    refine q_mk2 (S4 L a o l a' o' l' hL hs h.1) (fun ha ho R0 c p hp hr A => ⟨fun q => (by cases q), fun _ => ?_⟩)
    have es : t_sign u (T a) R0 = ((c, m_lk P T a :: p, nI o, 0, true), true) := by
      rw [← m_lk_T (T := T) ha1, q_goOp hL hs A.1, A.2.1, q_stl_stop hr]
    obtain ⟨R2, r2, A2⟩ := (h.s1 hb10.2 (by omega) ho c (m_lk P T a :: p) (by simp only [List.length_cons]; omega) (fun _ => by show t_rank (m_lk P T a) < _; rw [e1]; exact nI_lt (by omega) (by omega))).2 rfl
    exact ⟨R2, (q_run.one es).tr r2, A2⟩
  · intro L a o l a1 o1 l1 b a' o' l' hL hs h g
    have hb10 := m_bin10 hL
    have hL4 : L ≤ 4 := by rcases hL with rfl | rfl | rfl | rfl <;> omega
    have ha1 := m_sg_lt hs
    obtain ⟨e1, e2⟩ := q_rank_sg hs
    refine q_mk2 (S5 L a o l a1 o1 l1 b a' o' l' hL hs h.1 g.1) (fun ha ho R0 c p hp hr A => ?_)
    obtain ⟨k1, k2, _, _, _, _, _, k7⟩ := h.1
    obtain ⟨f1, -⟩ := k7 rfl
    subst f1
    have es : t_sign u (T a) R0 = ((c, m_lk P T a :: p, nI o1, 0, true), true) := by
      rw [← m_lk_T (T := T) ha1, q_goOp hL hs A.1, A.2.1, q_stl_stop hr]
    obtain ⟨t, R1, rfl, r1, A1⟩ := (h.s1 hb10.2 (by omega) ho c (m_lk P T a :: p) (by simp only [List.length_cons]; omega) (fun _ => by show t_rank (m_lk P T a) < _; rw [e1]; exact nI_lt (by omega) (by omega))).1 rfl
    have A2 := A1.down hL
    have A3 : q_A P T L (L + 1) R1 a1 (((3, m_lk P T a) :: t).map (q_enc u) ++ c) p (nI o1) := by
      obtain ⟨h1, h2, h3, h4, h5⟩ := A2
      refine ⟨h1, ?_, h3, h4, h5⟩
      rw [h2, q_pop (fun q => by rw [e1] at q; exact q_irr q) e2]
      rfl
    have hg := g.s2 (k2 (by omega)) ho R1 _ p (by omega) hr A3
    refine ⟨fun q => ?_, fun q => ?_⟩
    · obtain ⟨t2, R2, q2, r2, A4⟩ := hg.1 q
      exact ⟨t2 ++ ((3, m_lk P T a) :: t), R2, by rw [q2, List.append_assoc]; rfl, ((q_run.one es).tr r1).tr r2, by rw [List.map_append, List.append_assoc]; exact A4⟩
    · obtain ⟨R2, r2, A4⟩ := hg.2 q
      exact ⟨R2, ((q_run.one es).tr r1).tr r2, A4⟩
  · intro a o l a' o' l' h
    refine q_mk1 (by omega) (S6 a o l a' o' l' h.1) (fun ha ho c p hp hr => ⟨fun q => (by cases q), fun _ => ?_⟩)
    exact (h.s1 (by omega) ha ho c p hp (fun _ => q_lt_le (hr (by omega)) (q_nI_le (by omega) (by omega)))).2 rfl
  · intro a o l a1 o1 l1 h hc
    refine q_mk1 (by omega) (S7 a o l a1 o1 l1 h.1 hc) (fun ha ho c p hp hr => ⟨fun _ => ?_, fun q => (by cases q)⟩)
    obtain ⟨t, R1, e, r1, h1, h2, h3, h4, h5⟩ := (h.s1 (by omega) ha ho c p hp (fun _ => q_lt_le (hr (by omega)) (q_nI_le (by omega) (by omega)))).1 rfl
    refine ⟨t, R1, e, r1, h1, q_stl_le (q_nI_le (by omega) (by omega)) h2, h3, fun L' hL' => ?_, fun _ q => absurd q hc⟩
    rcases Nat.eq_or_lt_of_le hL' with rfl | q
    · exact q_sg_no (Or.inl rfl)
    · exact h4 L' q
  · intro a o l a1 o1 l1 a' o' l' h hc g
    have ha1 := m_cp_lt hc
    obtain ⟨e1, e2⟩ := q_rank_cp hc
    refine q_mk1 (by omega) (S8 a o l a1 o1 l1 a' o' l' h.1 hc g.1) (fun ha ho c p hp hr => ⟨fun q => (by cases q), fun _ => ?_⟩)
    obtain ⟨k1, k2, _, _, _, _, _, k7⟩ := h.1
    obtain ⟨f1, -⟩ := k7 rfl
    subst f1
    obtain ⟨t, R1, e, r1, h1, h2, h3, h4, h5⟩ := (h.s1 (by omega) ha ho c p hp (fun _ => q_lt_le (hr (by omega)) (q_nI_le (by omega) (by omega)))).1 rfl
    have h2 : t_stl 4 R1.1 R1.2.1 R1.2.2.1 = t_stl 4 (t.map (q_enc u) ++ c) p (nI o1) := h2
    have hr3 : t_rank (p.headD 0) < 3 := hr (by omega)
    have es : t_sign u (T a1) R1 = ((t.map (q_enc u) ++ c, m_lk P T a1 :: p, nI o1, 0, true), true) := by
      rw [← m_lk_T (T := T) ha1, q_goCp hc h1, h2, q_stl_stop (q_lt_le hr3 (by decide)), if_neg (fun q => by rw [q] at hr3; exact q_irr hr3)]
    obtain ⟨R2, r2, A2⟩ := (g.s1 (by omega) (by omega) ho (t.map (q_enc u) ++ c) (m_lk P T a1 :: p) (by simp only [List.length_cons]; omega) (fun _ => by show t_rank (m_lk P T a1) < _; rw [e1]; decide)).2 rfl
    exact ⟨R2, (r1.tr (q_run.one es)).tr r2, A2⟩
  · intro a o l a1 o1 l1 a2 o2 l2 h hc g
    have ha1 := m_cp_lt hc
    obtain ⟨e1, e2⟩ := q_rank_cp hc
    refine q_mk1 (by omega) (S9 a o l a1 o1 l1 a2 o2 l2 h.1 hc g.1) (fun ha ho c p hp hr => ⟨fun _ => ?_, fun q => (by cases q)⟩)
    obtain ⟨k1, k2, _, _, _, _, _, k7⟩ := h.1
    obtain ⟨f1, -⟩ := k7 rfl
    subst f1
    obtain ⟨t, R1, rfl, r1, h1, h2, h3, h4, h5⟩ := (h.s1 (by omega) ha ho c p hp (fun _ => q_lt_le (hr (by omega)) (q_nI_le (by omega) (by omega)))).1 rfl
    have h2 : t_stl 4 R1.1 R1.2.1 R1.2.2.1 = t_stl 4 (t.map (q_enc u) ++ c) p (nI o1) := h2
    have hr3 : t_rank (p.headD 0) < 3 := hr (by omega)
    have es : t_sign u (T a1) R1 = ((t.map (q_enc u) ++ c, m_lk P T a1 :: p, nI o1, 0, true), true) := by
      rw [← m_lk_T (T := T) ha1, q_goCp hc h1, h2, q_stl_stop (q_lt_le hr3 (by decide)), if_neg (fun q => by rw [q] at hr3; exact q_irr hr3)]
    obtain ⟨t2, R2, rfl, r2, j1, j2, j3, j4, j5⟩ := (g.s1 (by omega) (by omega) ho (t.map (q_enc u) ++ c) (m_lk P T a1 :: p) (by simp only [List.length_cons]; omega) (fun _ => by show t_rank (m_lk P T a1) < _; rw [e1]; decide)).1 rfl
    have j2 : t_stl 4 R2.1 R2.2.1 R2.2.2.1 = t_stl 4 (t2.map (q_enc u) ++ (t.map (q_enc u) ++ c)) (m_lk P T a1 :: p) (nI o1) := j2
    have hs4 : t_rank ((m_lk P T a1 :: p).headD 0) < 4 := by show t_rank (m_lk P T a1) < 4; rw [e1]; decide
    refine ⟨(3, m_lk P T a1) :: (t2 ++ t), R2, by rw [List.cons_append, List.append_assoc], (r1.tr (q_run.one es)).tr r2, j1, ?_, j3, fun L' hL' => ?_, fun _ _ => ?_⟩
    · have j6 : t_stl (nI (2 + 1)) R2.1 R2.2.1 R2.2.2.1 = t_stl (nI (2 + 1)) (t2.map (q_enc u) ++ (t.map (q_enc u) ++ c)) (m_lk P T a1 :: p) (nI o1) := q_stl_le (r := 4) (show nI 3 ≤ 4 by decide) j2
      rw [j6, q_pop (fun q => by rw [e1] at q; exact q_irr (show (3 : Int32) < 3 from q)) e2, List.map_cons, List.map_append, List.cons_append, List.append_assoc]
      rfl
    · rcases Nat.eq_or_lt_of_le hL' with rfl | q
      · exact q_sg_no (Or.inl rfl)
      · exact j4 L' q
    · rw [j2, q_stl_stop hs4]
      exact e1
  · intro a o l hn
    have ha1 := m_nm_lt hn
    refine q_mk1 (by omega) (S10 a o l hn) (fun ha ho c p hp hr => ⟨fun _ => ?_, fun q => (by cases q)⟩)
    refine ⟨[(1, m_lk P T a)], ((-1 - t_ix u (m_lk P T a)) :: c, p, nI o, 0, false), rfl, q_run.one (by rw [← m_lk_T (T := T) ha1]; exact q_begNm hn), rfl, rfl, fun _ => Or.inl (by show (0 : Int32) < 1; decide), fun L' hL' => q_sg_no (Or.inr hL'), fun q => absurd q (by omega)⟩
  · intro a o l hn hd
    have ha1 := m_dg_lt hd
    refine q_mk1 (by omega) (S11 a o l hn hd) (fun ha ho c p hp hr => ⟨fun _ => ?_, fun q => (by cases q)⟩)
    have e0 : m_dig P T 4 a 0 = m_dig P T 3 (a + 1) (m_lk P T a - 48) := by
      refine (if_pos hd).trans ?_
      rw [show (10 : Int32) * 0 + m_lk P T a - 48 = m_lk P T a - 48 by rw [show (10 : Int32) * 0 = 0 from rfl, Int32.zero_add]]
    obtain ⟨k', g1, g2, g3, g4⟩ := q_dig (P := P) (T := T) (u := u) (c := c) (p := p) (o := nI o) 3 1 (a + 1) (m_lk P T a - 48) (by omega) (by omega)
    rw [← e0] at g3 g4
    refine ⟨[(0, (m_dig P T 4 a 0).1)], ((m_dig P T 4 a 0).1 :: c, p, nI o, nI k', false), rfl, (q_run.one (by rw [← m_lk_T (T := T) ha1]; exact q_begDg hd)).tr g4, rfl, rfl, fun q => Or.inr ?_, fun L' hL' => q_sg_no (Or.inr hL'), fun q => absurd q (by omega)⟩
    have := g3 q
    subst this
    show ¬ (nI 4 < 4)
    decide
  · intro a o l a1 o1 l1 hc ho5 h
    have ha1 := m_lk_is hc (by decide)
    refine q_mk1 (by omega) (S12 a o l a1 o1 l1 hc ho5 h.1) (fun ha ho c p hp hr => ⟨fun _ => ?_, fun q => (by cases q)⟩)
    have es : t_sign u (T a) (c, p, nI o, 0, true) = ((c, 33 :: p, nI (o + 1), 0, true), true) := by
      rw [← m_lk_T (T := T) ha1, hc, q_begOpen (Or.inl rfl) ho, decide_eq_true ho5]
    obtain ⟨t, R1, rfl, r1, h1, h2, h3, h4, h5⟩ := (h.s1 (by omega) (by omega) (by omega) c (33 :: p) (by simp only [List.length_cons]; omega) (fun q => absurd q (by omega))).1 rfl
    refine ⟨(2, 0) :: t, R1, rfl, (q_run.one es).tr r1, h1, ?_, h3, h4, h5⟩
    rw [h2]
    have e6 : ¬ (t_rank 33 < nI (5 + 1)) := by decide
    show (if t_rank 33 < nI (5 + 1) then _ else _) = _
    rw [if_neg e6, if_pos rfl, nI_pred]
    rfl
  · intro a o l a' o' l' hc ho5 h
    have ha1 := m_lk_is hc (by decide)
    refine q_mk1 (by omega) (S13 a o l a' o' l' hc ho5 h.1) (fun ha ho c p hp hr => ⟨fun q => (by cases q), fun _ => ?_⟩)
    have es : t_sign u (T a) (c, p, nI o, 0, true) = ((c, 33 :: p, nI (o + 1), 0, true), true) := by
      rw [← m_lk_T (T := T) ha1, hc, q_begOpen (Or.inl rfl) ho, decide_eq_true ho5]
    obtain ⟨R1, r1, A1⟩ := (h.s1 (by omega) (by omega) (by omega) c (33 :: p) (by simp only [List.length_cons]; omega) (fun q => absurd q (by omega))).2 rfl
    exact ⟨R1, (q_run.one es).tr r1, A1⟩
  · intro a o l hc ho5
    have ha1 := m_lk_is hc (by decide)
    refine q_mk1 (by omega) (S14 a o l hc ho5) (fun ha ho c p hp hr => ⟨fun q => (by cases q), fun _ => ⟨_, q_run.rf, q_stk_at ha1 ?_⟩⟩)
    rw [← m_lk_T (T := T) ha1, hc, q_begOpen (Or.inl rfl) ho]
    exact decide_eq_false ho5
  · intro a o l a1 o1 l1 hc ho5 h hk
    have ha1 := m_lk_is hc (by decide)
    have ha2 := m_lk_is hk (by decide)
    refine q_mk1 (by omega) (S15 a o l a1 o1 l1 hc ho5 h.1 hk) (fun ha ho c p hp hr => ⟨fun _ => ?_, fun q => (by cases q)⟩)
    have es : t_sign u (T a) (c, p, nI o, 0, true) = ((c, 40 :: p, nI (o + 1), 0, true), true) := by
      rw [← m_lk_T (T := T) ha1, hc, q_begOpen (Or.inr rfl) ho, decide_eq_true ho5]
    obtain ⟨t, R1, e, r1, A1⟩ := (h.s1 (by omega) (by omega) (by omega) c (40 :: p) (by simp only [List.length_cons]; omega) (fun _ => show t_rank 40 < nI (0 + 1) by decide)).1 rfl
    have ec : t_sign u (T a1) R1 = ((t.map (q_enc u) ++ c, p, nI o, 0, false), true) := by
      rw [← m_lk_T (T := T) ha2, hk, q_close A1 (by omega), nI_pred]
    exact ⟨t, _, e, ((q_run.one es).tr r1).tr (q_run.one ec), rfl, rfl, fun _ => Or.inl (by show (0 : Int32) < 1; decide), fun L' hL' => q_sg_no (Or.inr hL'), fun q => absurd q (by omega)⟩
  · intro a o l a1 o1 l1 hc ho5 h hk
    have ha1 := m_lk_is hc (by decide)
    refine q_mk1 (by omega) (S16 a o l a1 o1 l1 hc ho5 h.1 hk) (fun ha ho c p hp hr => ⟨fun q => (by cases q), fun _ => ?_⟩)
    have es : t_sign u (T a) (c, p, nI o, 0, true) = ((c, 40 :: p, nI (o + 1), 0, true), true) := by
      rw [← m_lk_T (T := T) ha1, hc, q_begOpen (Or.inr rfl) ho, decide_eq_true ho5]
    obtain ⟨t, R1, e, r1, A1⟩ := (h.s1 (by omega) (by omega) (by omega) c (40 :: p) (by simp only [List.length_cons]; omega) (fun _ => show t_rank 40 < nI (0 + 1) by decide)).1 rfl
    refine ⟨R1, (q_run.one es).tr r1, fun q => ?_, fun _ => Or.inr ?_⟩
    · exact q_A_stk A1 q (by rw [m_lk_T q] at hk; exact hk)
    · have e1 : t_stl 1 R1.1 R1.2.1 R1.2.2.1 = (t.map (q_enc u) ++ c, 40 :: p, nI (o + 1)) := A1.2.1.trans (q_stl_stop (r := 1) (show t_rank 40 < 1 by decide))
      rw [e1]
      exact nI_nle (n := (40 :: p).length) (by simp) (by simp only [List.length_cons]; omega)
  · intro a o l a' o' l' hc ho5 h
    have ha1 := m_lk_is hc (by decide)
    refine q_mk1 (by omega) (S17 a o l a' o' l' hc ho5 h.1) (fun ha ho c p hp hr => ⟨fun q => (by cases q), fun _ => ?_⟩)
    have es : t_sign u (T a) (c, p, nI o, 0, true) = ((c, 40 :: p, nI (o + 1), 0, true), true) := by
      rw [← m_lk_T (T := T) ha1, hc, q_begOpen (Or.inr rfl) ho, decide_eq_true ho5]
    obtain ⟨R1, r1, A1⟩ := (h.s1 (by omega) (by omega) (by omega) c (40 :: p) (by simp only [List.length_cons]; omega) (fun _ => show t_rank 40 < nI (0 + 1) by decide)).2 rfl
    exact ⟨R1, (q_run.one es).tr r1, A1⟩
  · intro a o l hc ho5
    have ha1 := m_lk_is hc (by decide)
    refine q_mk1 (by omega) (S18 a o l hc ho5) (fun ha ho c p hp hr => ⟨fun q => (by cases q), fun _ => ⟨_, q_run.rf, q_stk_at ha1 ?_⟩⟩)
    rw [← m_lk_T (T := T) ha1, hc, q_begOpen (Or.inr rfl) ho]
    exact decide_eq_false ho5
  · intro a o l h1 h2 h3 h4
    refine q_mk1 (by omega) (S19 a o l h1 h2 h3 h4) (fun ha ho c p hp hr => ⟨fun q => (by cases q), fun _ => ⟨_, q_run.rf, fun q => ?_, fun _ => Or.inl rfl⟩⟩)
    rw [m_lk_T q] at h1 h2 h3 h4
    exact q_begNo hu (hb a q) h1 h2 h3 h4
/-- BOTH READERS SAY THE SAME -/
theorem q_text {P : Nat} {T : Nat → Int32} {u : Nat} (hu : u ≤ 1) (hP : P ≤ 60) (hb : ∀ i : Nat, i < P → ∃ b : Nat, b < 256 ∧ T i = nI b) {bb : Bool} {a' o' : Nat} {l' : m_L} (h : m_R P T u 0 0 0 [] bb a' o' l') :
    (t_end P (t_run u T P 0 ([], [], 0, 0, true)) = if bb = true ∧ a' = P then -1 else nI a') ∧ ((bb = true ∧ a' = P) → (t_fin (t_run u T P 0 ([], [], 0, 0, true))).1 = l'.map (q_enc u)) := by
  have hS := h.S
  have hQ : q_Sim P T u 0 0 0 [] bb a' o' l' := h _ (q_Sim_C hu hP hb)
  have haP : a' ≤ P := hS.2.1 (Nat.zero_le P)
  have g := hQ.s1 (by omega) (Nat.zero_le P) (Nat.zero_le 5) [] [] (Nat.le_refl 0) (fun _ => by decide)
  cases bb with
  | true =>
    obtain ⟨t, R1, e, ⟨k, ek, r1⟩, A1⟩ := g.1 rfl
    rw [List.append_nil] at e
    subst e
    obtain rfl : k = a' := by omega
    have hr := r1 (P - k)
    rw [show k + (P - k) = P by omega] at hr
    have hr : t_run u T P 0 ([], [], 0, 0, true) = t_run u T (P - k) k R1 := hr
    have e1 : t_stl 1 R1.1 R1.2.1 R1.2.2.1 = (l'.map (q_enc u) ++ [], [], nI 0) := A1.2.1.trans (q_stl_stop (r := 1) (by decide))
    rcases Nat.eq_or_lt_of_le haP with c | c
    · rw [if_pos ⟨rfl, c⟩, hr, show P - k = 0 by omega]
      refine ⟨?_, fun _ => ?_⟩
      · show (if R1.2.2.2.2 = true then nI P else if nI (t_stl 1 R1.1 R1.2.1 R1.2.2.1).2.1.length ≤ 0 then -1 else nI P) = -1
        rw [e1, A1.1]
        rfl
      · show (t_stl 1 R1.1 R1.2.1 R1.2.2.1).1 = _
        rw [e1, List.append_nil]
    · rw [if_neg (fun q => by omega), hr]
      obtain ⟨m, hm⟩ : ∃ m, P - k = m + 1 := ⟨P - k - 1, by omega⟩
      rw [hm]
      have es : (t_sign u (T k) R1).2 = false := by
        by_cases c41 : T k = 41
        · rw [c41, q_goClose A1.1]
          unfold t_close
          rw [e1]
          rfl
        · exact q_A_stk A1 c c41
      rw [t_run_n rfl (by rw [es]; decide)]
      exact ⟨rfl, fun q => by omega⟩
  | false =>
    obtain ⟨R1, ⟨k, ek, r1⟩, s1, s2⟩ := g.2 rfl
    obtain rfl : k = a' := by omega
    have hr := r1 (P - k)
    rw [show k + (P - k) = P by omega] at hr
    have hr : t_run u T P 0 ([], [], 0, 0, true) = t_run u T (P - k) k R1 := hr
    rw [if_neg (fun q => by cases q.1), hr]
    refine ⟨?_, fun q => by cases q.1⟩
    rcases Nat.eq_or_lt_of_le haP with c | c
    · rw [show P - k = 0 by omega]
      show (if R1.2.2.2.2 = true then nI P else if nI (t_stl 1 R1.1 R1.2.1 R1.2.2.1).2.1.length ≤ 0 then -1 else nI P) = nI k
      rcases s2 (by omega) with q | q
      · rw [if_pos q, c]
      · rw [if_neg q, ite_self, c]
    · obtain ⟨m, hm⟩ : ∃ m, P - k = m + 1 := ⟨P - k - 1, by omega⟩
      rw [hm, t_run_n rfl (by rw [s1 c]; decide)]
      rfl
