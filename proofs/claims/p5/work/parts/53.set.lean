/-! calls that change the wall, z, things -/
theorem r_txf_congr {f g : Nat → Int32} (he : ∀ j : Nat, 36 ≤ j → j < 286 → g j = f j) (h0 : r_txf0 f) (h1 : r_txf1 f) : r_txf0 g ∧ r_txf1 g := by
  have key : ∀ (b : Nat) (ok : Int32 → Prop), (b = 36 ∨ b = 161) → (f b = 0 ∨ ∃ n : Nat, n ≤ 62 ∧ f b = nI n ∧ r_wf ok (fun k => f (b + 1 + 2 * k)) (fun k => f (b + 2 + 2 * k)) n 0 0) → (g b = 0 ∨ ∃ n : Nat, n ≤ 62 ∧ g b = nI n ∧ r_wf ok (fun k => g (b + 1 + 2 * k)) (fun k => g (b + 2 + 2 * k)) n 0 0) := by
    intro b ok hb hh
    rw [he b (by omega) (by omega)]
    rcases hh with hh | ⟨n, h1, h2, h3⟩
    · exact Or.inl hh
    · refine Or.inr ⟨n, h1, h2, ?_⟩
      have cg : ∀ (m k d : Nat), k + m ≤ 62 → r_wf ok (fun k => f (b + 1 + 2 * k)) (fun k => f (b + 2 + 2 * k)) m k d → r_wf ok (fun k => g (b + 1 + 2 * k)) (fun k => g (b + 2 + 2 * k)) m k d := by
        intro m
        induction m with
        | zero => exact fun _ _ _ q => q
        | succ m ih =>
          intro k d hk hw
          show (g (b + 1 + 2 * k) = 0 ∧ _) ∨ (g (b + 1 + 2 * k) = 1 ∧ ok (g (b + 2 + 2 * k)) ∧ _) ∨ (g (b + 1 + 2 * k) = 2 ∧ _) ∨ (g (b + 1 + 2 * k) = 3 ∧ _)
          rw [he (b + 1 + 2 * k) (by omega) (by omega), he (b + 2 + 2 * k) (by omega) (by omega)]
          rcases hw with q | q | q | q
          · exact Or.inl ⟨q.1, ih (k + 1) (d + 1) (by omega) q.2⟩
          · exact Or.inr (Or.inl ⟨q.1, q.2.1, ih (k + 1) (d + 1) (by omega) q.2.2⟩)
          · exact Or.inr (Or.inr (Or.inl ⟨q.1, q.2.1, ih (k + 1) d (by omega) q.2.2⟩))
          · exact Or.inr (Or.inr (Or.inr ⟨q.1, q.2.1, ih (k + 1) (d - 1) (by omega) q.2.2⟩))
      exact cg n 0 0 (by omega) h3
  exact ⟨key 36 r_ok0 (Or.inl rfl) h0, key 161 r_ok1 (Or.inr rfl) h1⟩
/-- only the wall, or z, changes -/
theorem g_row_lo {f g : Nat → Int32} (he : ∀ j : Nat, 8 ≤ j → g j = f j) (h : g_row_ok f) (hw : g_wall g) : g_row_ok g := by
  obtain ⟨-, ⟨P, p1, p2⟩, ⟨W, w1, w2⟩, ⟨M, m1, m2, m3⟩, t0, t1⟩ := h
  have ht := r_txf_congr (g := g) (fun j h1 h2 => he j (by omega)) t0 t1
  refine ⟨hw, ⟨P, p1, (he 8 (by omega)).trans p2⟩, ⟨W, w1, (he 9 (by omega)).trans w2⟩, ⟨M, m1, (he 10 (by omega)).trans m2, fun n hn => ?_⟩, ht.1, ht.2⟩
  rw [he _ (by omega), he _ (by omega), he _ (by omega), he _ (by omega)]
  exact m3 n hn
theorem g_rel_lo {z z2 : Int32} {N : Nat → Int32} {F : Nat → Nat → Int32} {r f g : Nat → Int32} (h : g_rel 0 z N F f) (hz : z2 = g 7) (he : ∀ j : Nat, 8 ≤ j → g j = f j) (hr : ∀ i : Nat, i < 7 → r i = g i) : g_rel 0 z2 N (va_up F 0 r) g := by
  obtain ⟨a1, a2, ⟨a3, a4⟩, ⟨a5, a6, a7, a8⟩, a9, a10, a11⟩ := h
  refine ⟨hr, hz, ?_, ?_, ?_, ?_, ?_⟩
  · rw [he 8 (by omega), he 9 (by omega)]; exact ⟨a3, a4⟩
  · rw [he 10 (by omega)]; exact ⟨a5, a6, a7, a8⟩
  · rw [he 10 (by omega)]
    intro n hn
    rw [he _ (by omega), he _ (by omega), he _ (by omega), he _ (by omega)]
    exact a9 n hn
  · rw [he 8 (by omega)]
    intro n hn
    rw [he _ (by omega)]
    exact a10 n hn
  · rw [he 9 (by omega)]
    intro n hn
    rw [he _ (by omega)]
    exact a11 n hn
/-- what lies beside the row now, is kept when only the rows now change -/
theorem g_rel_far {z : Int32} {N N' : Nat → Int32} {F F' : Nat → Nat → Int32} {f : Nat → Int32} (h : g_rel 9 z N F f) (hN : ∀ j : Nat, 9 ≤ j → j ≤ 17 → N' j = N j) (hF : ∀ j : Nat, 9 ≤ j → j ≤ 17 → F' j = F j) : g_rel 9 z N' F' f := by
  obtain ⟨a1, a2, ⟨a3, a4⟩, ⟨a5, a6, a7, a8⟩, a9, a10, a11⟩ := h
  refine ⟨?_, a2, ?_, ?_, ?_, ?_, ?_⟩
  · rw [hF 9 (by omega) (by omega)]; exact a1
  · rw [hN (9 + 5) (by omega) (by omega), hN (9 + 8) (by omega) (by omega)]; exact ⟨a3, a4⟩
  · rw [hN (9 + 1) (by omega) (by omega), hN (9 + 2) (by omega) (by omega), hN (9 + 3) (by omega) (by omega), hN (9 + 4) (by omega) (by omega)]; exact ⟨a5, a6, a7, a8⟩
  · rw [hF (9 + 1) (by omega) (by omega), hF (9 + 2) (by omega) (by omega), hF (9 + 3) (by omega) (by omega), hF (9 + 4) (by omega) (by omega)]; exact a9
  · rw [hF (9 + 5) (by omega) (by omega)]; exact a10
  · rw [hF (9 + 8) (by omega) (by omega)]; exact a11
theorem g_sh_far {Z N Z' N' : Nat → Int32} {F F' G G' : Nat → Nat → Int32} (h : g_sh Z N F G) (hZ : ∀ j : Nat, 2 ≤ j → j ≤ 5 → Z' j = Z j) (hN : ∀ j : Nat, 19 ≤ j → j ≤ 22 → N' j = N j) (hF : ∀ j : Nat, 19 ≤ j → j ≤ 22 → F' j = F j) (hG : G' 11 = G 11 ∧ G' 12 = G 12 ∧ G' 13 = G 13) : g_sh Z' N' F' G' := by
  intro k hk
  rw [hZ (2 + k) (by omega) (by omega), hN (19 + k) (by omega) (by omega), hF (19 + k) (by omega) (by omega), hG.1, hG.2.1, hG.2.2]
  exact h k hk
theorem RR.wrow {Z N Zm : Nat → Int32} {F G : Nat → Nat → Int32} (h : RR Z N F Zm G) {r g : Nat → Int32} (he : ∀ j : Nat, 7 ≤ j → g j = G 0 j) (hr : ∀ i : Nat, i < 7 → r i = g i) (hw : g_wall g) : RR Z N (va_up F 0 r) Zm (va_up G 0 g) := by
  obtain ⟨b0, b1, b2, b3, b4, b5, b6, b7, b8⟩ := h
  exact ⟨b0, g_row_lo (fun j hj => he j (by omega)) b1 hw, g_rel_lo b2 (b2.2.1.trans (he 7 (by omega)).symm) (fun j hj => he j (by omega)) hr, b3, fun hz => ⟨(b4 hz).1, g_rel_far (b4 hz).2 (fun _ _ _ => rfl) (fun j h1 h2 => px_up_ne F _ (by omega))⟩, g_sh_far b5 (fun _ _ _ => rfl) (fun _ _ _ => rfl) (fun j h1 h2 => px_up_ne F _ (by omega)) ⟨rfl, rfl, rfl⟩, b6, b7, b8.1, b8.2.cg rfl (fun _ _ => rfl) (fun q hq => px_up_ne F _ (by omega)) (fun j hj => he j (by omega)) rfl⟩
theorem RR.wset {Z N Zm : Nat → Int32} {F G : Nat → Nat → Int32} (h : RR Z N F Zm G) {i : Nat} (hi : i < 7) (v : Int32) (hw : g_wall (upd (G 0) i v)) : RR Z N (va_up F 0 (upd (F 0) i v)) Zm (va_up G 0 (upd (G 0) i v)) := by
  refine h.wrow (fun j hj => px_upd_ne _ v (by omega)) (fun j hj => ?_) hw
  unfold upd
  split
  · rfl
  · exact h.F0 hj
theorem st_begin (first : Int32) : px_st 51 160 [.int first] True := by
  intro Z N F Zm G h
  have hT := (g_TJR h.wall).1
  by_cases c : 1 ≤ first ∧ first ≤ G 0 1
  · have ec : s_begin Z N F first = (F 0 6, Z, N, va_up F 0 (upd (F 0) 6 first)) := (if_neg (Int32.not_lt.mpr c.1)).trans (if_pos (show first ≤ F 0 1 by rw [h.F0 (by omega)]; exact c.2))
    have em : s_mbegin Zm G first = (G 0 6, Zm, va_up G 0 (upd (G 0) 6 first)) := if_pos c
    have hc := kc_begin (Z := Z) (F := F) h.1 first
    have hm := kc_mbegin (Z := Zm) (F := G) first
    rw [ec] at hc
    rw [em] at hm
    have hs : ∃ s : Nat, 1 ≤ s ∧ s ≤ fT (G 0) ∧ first = nI s := by
      have c2 := c.2
      rw [hT.1] at c2
      obtain ⟨e, hl⟩ := px_in5 (n := fT (G 0)) (by omega) ⟨Int32.le_trans (by decide) c.1, c2⟩
      refine ⟨first.toNatClampNeg, ?_, by omega, e⟩
      have c1 := c.1
      rw [e] at c1
      exact (nI_leI (a := 1) (by omega) (by omega)).mp c1
    obtain ⟨s, s1, s2, rfl⟩ := hs
    exact px_st_of hc (by decide) hm (by decide) (h.wset (by omega) _ (g_start h.wall s1 s2)) (fun _ => h.F0 (by omega))
  · have ec : s_begin Z N F first = (-1000000000 - 1, Z, N, F) := by
      unfold s_begin
      rw [h.F0 (show 1 < 7 by omega)]
      by_cases c1 : first < 1
      · rw [if_pos c1]
      · rw [if_neg c1, if_neg (fun q => c ⟨Int32.not_lt.mp c1, q⟩)]
    have em : s_mbegin Zm G first = (-1000000000 - 1, Zm, G) := if_neg c
    have hc := kc_begin (Z := Z) (F := F) h.1 first
    have hm := kc_mbegin (Z := Zm) (F := G) first
    rw [ec] at hc
    rw [em] at hm
    exact px_st_of hc (by decide) hm (by decide) h (fun _ => rfl)
theorem st_seed (v : Int32) : px_st 66 175 [.int v] True := by
  intro Z N F Zm G h
  have hR : RR (upd Z 0 v) N F Zm (va_up G 0 (upd (G 0) 7 v)) := by
    obtain ⟨b0, b1, b2, b3, b4, b5, b6, b7, b8⟩ := h
    have e : ∀ j : Nat, j ≠ 7 → upd (G 0) 7 v j = G 0 j := fun j hj => px_upd_ne _ v hj
    have g := g_rel_lo (z2 := v) (r := F 0) (g := upd (G 0) 7 v) b2 rfl (fun j hj => e j (by omega)) (fun i hi => (b2.1 i hi).trans (e i (by omega)).symm)
    rw [px_up_id] at g
    exact ⟨b0, g_row_lo (fun j hj => e j (by omega)) b1 b1.1, g, b3, b4, g_sh_far b5 (fun j h1 h2 => px_upd_ne Z v (by omega)) (fun _ _ _ => rfl) (fun _ _ _ => rfl) ⟨rfl, rfl, rfl⟩, b6, b7, b8.1, b8.2.cg (px_upd_ne Z v (by omega)) (fun _ _ => rfl) (fun _ _ => rfl) (fun j hj => e j (by omega)) rfl⟩
  exact px_st_of (kc_seed h.1 v) (by decide) (kc_mseed v) (by decide) hR (fun _ => h.2.2.1.2.1)
theorem zz_rng {v : Int32} {a b : Nat} (ha : a ≤ b) (hb : b < 100000) (h1 : nI a ≤ v) (h2 : v ≤ nI b) : ∃ n : Nat, a ≤ n ∧ n ≤ b ∧ v = nI n := by
  obtain ⟨n, hn, rfl⟩ := nI_of (Int32.not_lt.mpr (Int32.le_trans (nI_pos' (n := a) (by omega)) h1))
  exact ⟨n, (nI_leI (by omega) (by omega)).mp h1, (nI_leI (by omega) (by omega)).mp h2, rfl⟩
/-- a number of the wall changes within its bounds -/
theorem g_wall_set {f : Nat → Int32} (h : g_wall f) {w : Nat} (hw : w < 6) {v : Int32} (h1 : px_K0 w ≤ v) (h2 : v ≤ px_K1 w) : (w ≠ 1 → g_wall (upd f w v)) ∧ (w = 1 → g_wall (upd (upd f 6 v) 1 v)) := by
  obtain ⟨L, T, J, R, B, S, h0, h1', h2', h4, h5, h6, a1, a2, a3, a4, a5, a6, a7, a8, a9, a10, k1, k2⟩ := h
  rcases (show w = 0 ∨ w = 1 ∨ w = 2 ∨ w = 3 ∨ w = 4 ∨ w = 5 by omega) with rfl | rfl | rfl | rfl | rfl | rfl
  · obtain ⟨n, n1, n2, rfl⟩ := zz_rng (a := 100) (b := 4000) (by omega) (by omega) h1 h2
    exact ⟨fun _ => ⟨n, T, J, R, B, S, rfl, h1', h2', h4, h5, h6, n1, n2, a3, a4, a5, a6, a7, a8, a9, a10, k1, k2⟩, fun q => absurd q (by omega)⟩
  · obtain ⟨n, n1, n2, rfl⟩ := zz_rng (a := 50) (b := 200) (by omega) (by omega) h1 h2
    exact ⟨fun q => absurd rfl q, fun _ => ⟨L, n, J, R, B, n, h0, rfl, h2', h4, h5, rfl, a1, a2, n1, n2, a5, a6, a7, a8, by omega, Nat.le_refl n, k1, k2⟩⟩
  · obtain ⟨n, n1, n2, rfl⟩ := zz_rng (a := 0) (b := 9) (by omega) (by omega) h1 h2
    exact ⟨fun _ => ⟨L, T, n, R, B, S, h0, h1', rfl, h4, h5, h6, a1, a2, a3, a4, n2, a6, a7, a8, a9, a10, k1, k2⟩, fun q => absurd q (by omega)⟩
  · rw [Int32.le_iff_toInt_le, show (px_K0 3).toInt = -9 from rfl] at h1
    rw [Int32.le_iff_toInt_le, show (px_K1 3).toInt = 9 from rfl] at h2
    exact ⟨fun _ => ⟨L, T, J, R, B, S, h0, h1', h2', h4, h5, h6, a1, a2, a3, a4, a5, a6, a7, a8, a9, a10, h1, h2⟩, fun q => absurd q (by omega)⟩
  · obtain ⟨n, n1, n2, rfl⟩ := zz_rng (a := 1) (b := 8) (by omega) (by omega) h1 h2
    exact ⟨fun _ => ⟨L, T, J, n, B, S, h0, h1', h2', rfl, h5, h6, a1, a2, a3, a4, a5, n1, n2, a8, a9, a10, k1, k2⟩, fun q => absurd q (by omega)⟩
  · obtain ⟨n, n1, n2, rfl⟩ := zz_rng (a := 0) (b := 1) (by omega) (by omega) h1 h2
    exact ⟨fun _ => ⟨L, T, J, R, n, S, h0, h1', h2', h4, rfl, h6, a1, a2, a3, a4, a5, a6, a7, n2, a9, a10, k1, k2⟩, fun q => absurd q (by omega)⟩
theorem st_wall (what v : Int32) : px_st 49 158 [.int what, .int v] True := by
  intro Z N F Zm G h
  have hc := kc_wall (Z := Z) (F := F) h.1 what v
  have hm := kc_mwall (Z := Zm) (F := G) what v
  have g3 := h.2.2.2.2.2.2.1
  have g4 := h.2.2.2.2.2.2.2.1
  have bad : s_wall Z N F what v = (-1000000000 - 1, Z, N, F) → s_mwall Zm G what v = (-1000000000 - 1, Zm, G) → _ := fun ec em => by
    rw [ec] at hc
    rw [em] at hm
    exact px_st_of (c := True) hc (by decide) hm (by decide) h (fun _ => rfl)
  by_cases c : 0 ≤ what ∧ what ≤ 5
  · obtain ⟨e, hl⟩ := px_in5 (n := 5) (by decide) c
    by_cases cv : px_K0 what.toNatClampNeg ≤ v ∧ v ≤ px_K1 what.toNatClampNeg
    · have hg := g_wall_set h.wall hl cv.1 cv.2
      by_cases c1 : what = 1
      · subst c1
        have ec : s_wall Z N F 1 v = (F 0 1, Z, N, va_up F 0 (upd (upd (F 0) 1 v) 6 v)) := by
          rw [show s_wall Z N F 1 v = (F 0 1, Z, N, va_up (va_up F 0 (upd (F 0) 1 v)) 0 (upd (upd (F 0) 1 v) 6 v)) from (if_neg (by decide)).trans ((if_neg (by decide)).trans ((if_neg (Int32.not_lt.mpr cv.1)).trans ((if_pos cv.2).trans (if_pos rfl)))), px_up_up]
        have em : s_mwall Zm G 1 v = (G 0 1, Zm, va_up G 0 (upd (upd (G 0) 6 v) 1 v)) := by
          rw [show s_mwall Zm G 1 v = (upd (G 0) 6 v 1, Zm, va_up (va_up G 0 (upd (G 0) 6 v)) 0 (upd (upd (G 0) 6 v) 1 v)) from (if_pos c).trans ((if_pos (show G 3 (1 : Int32).toNatClampNeg ≤ v ∧ v ≤ G 4 (1 : Int32).toNatClampNeg by rw [g3, g4]; exact cv)).trans (if_pos rfl)), px_up_up]
          rfl
        rw [ec] at hc
        rw [em] at hm
        refine px_st_of (c := True) hc (by decide) hm (by decide) (h.wrow (fun j hj => ?_) (fun i hi => ?_) (hg.2 rfl)) (fun _ => h.F0 (by omega))
        · rw [px_upd_ne _ _ (by omega), px_upd_ne _ _ (by omega)]
        · rw [zz_ux (G 0) (show 6 ≠ 1 by decide)]
          unfold upd
          split
          · rfl
          · split
            · rfl
            · exact h.F0 hi
      · have hw1 : what.toNatClampNeg ≠ 1 := fun q => c1 (by rw [e, q]; rfl)
        have ec : s_wall Z N F what v = (F 0 what.toNatClampNeg, Z, N, va_up F 0 (upd (F 0) what.toNatClampNeg v)) := (if_neg (Int32.not_lt.mpr c.1)).trans ((if_neg (Int32.not_lt.mpr c.2)).trans ((if_neg (Int32.not_lt.mpr cv.1)).trans ((if_pos cv.2).trans (if_neg c1))))
        have em : s_mwall Zm G what v = (G 0 what.toNatClampNeg, Zm, va_up G 0 (upd (G 0) what.toNatClampNeg v)) := by
          rw [show s_mwall Zm G what v = ((upd (G 0) 6 (G 0 6)) what.toNatClampNeg, Zm, va_up (va_up G 0 (upd (G 0) 6 (G 0 6))) 0 (upd (upd (G 0) 6 (G 0 6)) what.toNatClampNeg v)) from (if_pos c).trans ((if_pos (show G 3 what.toNatClampNeg ≤ v ∧ v ≤ G 4 what.toNatClampNeg by rw [g3, g4]; exact cv)).trans (if_neg c1)), zz_ui, px_up_up]
        rw [ec] at hc
        rw [em] at hm
        exact px_st_of (c := True) hc (by decide) hm (by decide) (h.wset (by omega) v (hg.1 hw1)) (fun _ => h.F0 (by omega))
    · refine bad ?_ ((if_pos c).trans (if_neg (by rw [g3, g4]; exact cv)))
      unfold s_wall
      rw [if_neg (Int32.not_lt.mpr c.1), if_neg (Int32.not_lt.mpr c.2)]
      by_cases c2 : v < px_K0 what.toNatClampNeg
      · rw [if_pos c2]
      · rw [if_neg c2, if_neg (fun q => cv ⟨Int32.not_lt.mp c2, q⟩)]
  · refine bad ?_ (if_neg c)
    unfold s_wall
    by_cases c2 : what < 0
    · rw [if_pos c2]
    · rw [if_neg c2, if_pos (Int32.not_le.mp (fun q => c ⟨Int32.not_lt.mp c2, q⟩))]
