theorem zz_txb {f g : Nat → Int32} {b : Nat} {ok : Int32 → Prop} (he : ∀ j : Nat, b ≤ j → j ≤ b + 124 → g j = f j) (hh : f b = 0 ∨ ∃ n : Nat, n ≤ 62 ∧ f b = nI n ∧ r_wf ok (fun k => f (b + 1 + 2 * k)) (fun k => f (b + 2 + 2 * k)) n 0 0) : g b = 0 ∨ ∃ n : Nat, n ≤ 62 ∧ g b = nI n ∧ r_wf ok (fun k => g (b + 1 + 2 * k)) (fun k => g (b + 2 + 2 * k)) n 0 0 := by
  rw [he b (by omega) (by omega)]
  rcases hh with hh | ⟨n, h1, h2, h3⟩
  · exact Or.inl hh
  · refine Or.inr ⟨n, h1, h2, ?_⟩
    have cg : ∀ (m k d : Nat), k + m ≤ 62 → r_wf ok (fun k => f (b + 1 + 2 * k)) (fun k => f (b + 2 + 2 * k)) m k d → r_wf ok (fun k => g (b + 1 + 2 * k)) (fun k => g (b + 2 + 2 * k)) m k d := by
      intro m
      induction m with
      | zero => exact fun _ _ _ q => q
      | succ m ih =>
        intro k d hk hw
        show (g (b + 1 + 2 * k) = 0 ∧ _) ∨ (g (b + 1 + 2 * k) = 1 ∧ ok (g (b + 2 + 2 * k)) ∧ _) ∨ (g (b + 1 + 2 * k) = 2 ∧ _) ∨ (g (b + 1 + 2 * k) = 3 ∧ _)
        rw [he (b + 1 + 2 * k) (by omega) (by omega), he (b + 2 + 2 * k) (by omega) (by omega)]
        rcases hw with q | q | q | q
        · exact Or.inl ⟨q.1, ih (k + 1) (d + 1) (by omega) q.2⟩
        · exact Or.inr (Or.inl ⟨q.1, q.2.1, ih (k + 1) (d + 1) (by omega) q.2.2⟩)
        · exact Or.inr (Or.inr (Or.inl ⟨q.1, q.2.1, ih (k + 1) d (by omega) q.2.2⟩))
        · exact Or.inr (Or.inr (Or.inr ⟨q.1, q.2.1, ih (k + 1) (d - 1) (by omega) q.2.2⟩))
    exact cg n 0 0 (by omega) h3
/-- a text of the row is another, in the reference; the class's text lies apart -/
theorem RR.text {Z N Zm : Nat → Int32} {F G : Nat → Nat → Int32} {N' : Nat → Int32} {F' : Nat → Nat → Int32} {g : Nat → Int32} (h : RR Z N F Zm G) (hN : ∀ j : Nat, ¬ (j = 6 ∨ j = 7) → N' j = N j) (hF : ∀ j : Nat, ¬ (j = 6 ∨ j = 7) → F' j = F j) (hw : px_cw N') (he : ∀ j : Nat, j < 36 ∨ 286 ≤ j → g j = G 0 j) (t0 : r_txf0 g) (t1 : r_txf1 g) (hx : g_tt 0 N' F' g) : RR Z N' F' Zm (va_up G 0 g) := by
  refine RR.now h (fun _ _ => rfl) (fun j hj => hN j (by omega)) (fun j hj => hF j (by omega)) hw ?_ ?_ hx
  · obtain ⟨w0, ⟨P, p1, p2⟩, ⟨W, w1, w2⟩, ⟨M2, m1, m2, m3⟩, -, -⟩ := h.2.1
    refine ⟨g_wall_congr w0 (fun j hj => he j (by omega)), ⟨P, p1, (he _ (by omega)).trans p2⟩, ⟨W, w1, (he _ (by omega)).trans w2⟩, ⟨M2, m1, (he _ (by omega)).trans m2, fun n hn => ?_⟩, t0, t1⟩
    rw [he (12 + 4 * n + 0) (by omega), he (12 + 4 * n + 1) (by omega), he (12 + 4 * n + 2) (by omega), he (12 + 4 * n + 3) (by omega)]
    exact m3 n hn
  · obtain ⟨a1, a2, ⟨a3, a4⟩, ⟨a5, a6, a7, a8⟩, a9, a10, a11⟩ := h.2.2.1
    have hM := h.M
    rw [g_rel, he 7 (by omega), he 8 (by omega), he 9 (by omega), he 10 (by omega), hN (0 + 5) (by omega), hN (0 + 8) (by omega), hN (0 + 1) (by omega), hN (0 + 2) (by omega), hN (0 + 3) (by omega), hN (0 + 4) (by omega), hF 0 (by omega), hF (0 + 1) (by omega), hF (0 + 2) (by omega), hF (0 + 3) (by omega), hF (0 + 4) (by omega), hF (0 + 5) (by omega), hF (0 + 8) (by omega)]
    refine ⟨fun i hi => (a1 i hi).trans (he i (by omega)).symm, a2, ⟨a3, a4⟩, ⟨a5, a6, a7, a8⟩, fun n hn => ?_, fun i hi => (a10 i hi).trans (he _ (by omega)).symm, fun i hi => (a11 i hi).trans (he _ (by omega)).symm⟩
    rw [he (12 + 4 * n + 0) (by omega), he (12 + 4 * n + 1) (by omega), he (12 + 4 * n + 2) (by omega), he (12 + 4 * n + 3) (by omega)]
    exact a9 n hn
theorem st_untell (use : Int32) : px_st 59 138 [.int use] False := by
  intro Z N F Zm G h
  by_cases c0 : use = 0
  · subst c0
    have hc := kc_untell0 (Z := Z) (F := F) h.1
    have hm := kc_muntell0 (Z := Zm) (F := G)
    rw [show (s_untell0 Z N F).2 = (Z, upd N 6 0, F) from by unfold s_untell0; split <;> rfl] at hc
    rw [show (s_muntell0 Zm G).2 = (Zm, va_up G 0 (upd (G 0) 36 0)) from by unfold s_muntell0; split <;> rfl] at hm
    refine px_st_of hc (by decide) hm (by decide) (h.text (fun j hj => px_upd_ne _ _ (by omega)) (fun _ _ => rfl) (h.1.upd (by decide) (by decide) (by decide) ⟨by decide, by decide⟩) (fun j hj => px_upd_ne _ _ (by omega)) (Or.inl (px_upd_self _ _ _)) ?_ ⟨h.tt.1.cg (px_upd_ne _ _ (by omega)) (fun j h1 h2 => px_upd_ne _ _ (by omega)), g_tu.nil rfl rfl, h.tt.2.2.cg rfl (fun _ _ => rfl) (fun j h1 h2 => px_upd_ne _ _ (by omega))⟩) (fun q => q.elim)
    exact zz_txb (b := 161) (ok := r_ok1) (fun j h1 h2 => px_upd_ne _ _ (by omega)) h.tx1
  by_cases c1 : use = 1
  · subst c1
    have hc := kc_untell1 (Z := Z) (F := F) h.1
    have hm := kc_muntell1 (Z := Zm) (F := G)
    rw [show (s_untell1 Z N F).2 = (Z, upd N 7 0, F) from by unfold s_untell1; split <;> rfl] at hc
    rw [show (s_muntell1 Zm G).2 = (Zm, va_up G 0 (upd (G 0) 161 0)) from by unfold s_muntell1; split <;> rfl] at hm
    refine px_st_of hc (by decide) hm (by decide) (h.text (fun j hj => px_upd_ne _ _ (by omega)) (fun _ _ => rfl) (h.1.upd (by decide) (by decide) (by decide) ⟨by decide, by decide⟩) (fun j hj => px_upd_ne _ _ (by omega)) ?_ (Or.inl (px_upd_self _ _ _)) ⟨h.tt.1.cg (px_upd_ne _ _ (by omega)) (fun j h1 h2 => px_upd_ne _ _ (by omega)), h.tt.2.1.cg rfl (fun _ _ => rfl) (fun j h1 h2 => px_upd_ne _ _ (by omega)), g_tu.nil rfl rfl⟩) (fun q => q.elim)
    exact zz_txb (b := 36) (ok := r_ok0) (fun j h1 h2 => px_upd_ne _ _ (by omega)) h.tx0
  · exact px_st_of (kc_untellB h.1 use (fun q => q.elim c0 c1)) (by decide) (kc_muntellB use (fun q => q.elim c0 c1)) (by decide) h (fun q => q.elim)
theorem g_tu_has {u b q : Nat} {N : Nat → Int32} {F : Nat → Nat → Int32} {f : Nat → Int32} (h : g_tu u b q N F f) : N q ≤ 0 ↔ ¬ (0 < f b) := by
  obtain ⟨l, h1, h2, h3, -⟩ := h
  rw [h2, h3, Int32.not_lt]
theorem g_tu_un0 {Z N Zm : Nat → Int32} {F G : Nat → Nat → Int32} (h : g_tu 0 36 (0 + 6) N F (G 0)) : (s_untell0 Z N F).1 = (s_muntell0 Zm G).1 := by
  have e := g_tu_has h
  unfold s_untell0 s_muntell0
  by_cases c : N 6 ≤ 0
  · rw [if_pos c, if_neg (e.mp c)]
  · rw [if_neg c, if_pos (Decidable.byContradiction (fun q => c (e.mpr q)))]
theorem g_tu_un1 {Z N Zm : Nat → Int32} {F G : Nat → Nat → Int32} (h : g_tu 1 161 (0 + 7) N F (G 0)) : (s_untell1 Z N F).1 = (s_muntell1 Zm G).1 := by
  have e := g_tu_has h
  unfold s_untell1 s_muntell1
  by_cases c : N 7 ≤ 0
  · rw [if_pos c, if_neg (e.mp c)]
  · rw [if_neg c, if_pos (Decidable.byContradiction (fun q => c (e.mpr q)))]
theorem st_untellT (use : Int32) : px_st 59 138 [.int use] True := by
  intro Z N F Zm G h
  by_cases c0 : use = 0
  · subst c0
    have hc := kc_untell0 (Z := Z) (F := F) h.1
    have hm := kc_muntell0 (Z := Zm) (F := G)
    rw [show (s_untell0 Z N F).2 = (Z, upd N 6 0, F) from by unfold s_untell0; split <;> rfl] at hc
    rw [show (s_muntell0 Zm G).2 = (Zm, va_up G 0 (upd (G 0) 36 0)) from by unfold s_muntell0; split <;> rfl] at hm
    refine px_st_of hc (by decide) hm (by decide) (h.text (fun j hj => px_upd_ne _ _ (by omega)) (fun _ _ => rfl) (h.1.upd (by decide) (by decide) (by decide) ⟨by decide, by decide⟩) (fun j hj => px_upd_ne _ _ (by omega)) (Or.inl (px_upd_self _ _ _)) ?_ ⟨h.tt.1.cg (px_upd_ne _ _ (by omega)) (fun j h1 h2 => px_upd_ne _ _ (by omega)), g_tu.nil rfl rfl, h.tt.2.2.cg rfl (fun _ _ => rfl) (fun j h1 h2 => px_upd_ne _ _ (by omega))⟩) (fun _ => g_tu_un0 h.tt.2.1)
    exact zz_txb (b := 161) (ok := r_ok1) (fun j h1 h2 => px_upd_ne _ _ (by omega)) h.tx1
  by_cases c1 : use = 1
  · subst c1
    have hc := kc_untell1 (Z := Z) (F := F) h.1
    have hm := kc_muntell1 (Z := Zm) (F := G)
    rw [show (s_untell1 Z N F).2 = (Z, upd N 7 0, F) from by unfold s_untell1; split <;> rfl] at hc
    rw [show (s_muntell1 Zm G).2 = (Zm, va_up G 0 (upd (G 0) 161 0)) from by unfold s_muntell1; split <;> rfl] at hm
    refine px_st_of hc (by decide) hm (by decide) (h.text (fun j hj => px_upd_ne _ _ (by omega)) (fun _ _ => rfl) (h.1.upd (by decide) (by decide) (by decide) ⟨by decide, by decide⟩) (fun j hj => px_upd_ne _ _ (by omega)) ?_ (Or.inl (px_upd_self _ _ _)) ⟨h.tt.1.cg (px_upd_ne _ _ (by omega)) (fun j h1 h2 => px_upd_ne _ _ (by omega)), h.tt.2.1.cg rfl (fun _ _ => rfl) (fun j h1 h2 => px_upd_ne _ _ (by omega)), g_tu.nil rfl rfl⟩) (fun _ => g_tu_un1 h.tt.2.2)
    exact zz_txb (b := 36) (ok := r_ok0) (fun j h1 h2 => px_upd_ne _ _ (by omega)) h.tx0
  · exact px_st_of (kc_untellB h.1 use (fun q => q.elim c0 c1)) (by decide) (kc_muntellB use (fun q => q.elim c0 c1)) (by decide) h (fun _ => rfl)
