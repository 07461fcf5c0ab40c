/-! seen, buy, calm: equal answers (66.w7: by hand) -/
theorem s_mtold1_cg {f g : Nat → Int32} (h : ∀ j : Nat, 36 ≤ j → f j = g j) (a b c : Int32) : s_mtold1 (fun _ => f) a b c = s_mtold1 (fun _ => g) a b c := by
  have e1 : (fun k : Nat => f (162 + 2 * k)) = fun k => g (162 + 2 * k) := funext fun k => h _ (by omega)
  have e2 : (fun k : Nat => f (163 + 2 * k)) = fun k => g (163 + 2 * k) := funext fun k => h _ (by omega)
  have key : i_held (if 0 < f 161 then (r_evs (r_nm1 a b c) (fun k => f (162 + 2 * k)) (fun k => f (163 + 2 * k)) (f 161).toNatClampNeg 0 []).headD 0 else a) (-99) 99 = i_held (if 0 < g 161 then (r_evs (r_nm1 a b c) (fun k => g (162 + 2 * k)) (fun k => g (163 + 2 * k)) (g 161).toNatClampNeg 0 []).headD 0 else a) (-99) 99 := by
    rw [e1, e2, h 161 (by omega)]
  exact key
theorem e_max0 (v : Int32) : i_max 0 v = if 0 ≤ v then v else 0 := by
  unfold i_max
  by_cases c : 0 < v
  · rw [if_pos c, if_pos (Int32.le_of_lt c)]
  · rw [if_neg c]
    by_cases c1 : 0 ≤ v
    · rw [if_pos c1]
      apply Int32.toInt_inj.mp
      rw [Int32.lt_iff_toInt_lt] at c
      rw [Int32.le_iff_toInt_le] at c1
      omega
    · rw [if_neg c1]
theorem e_mhs (f A B : Nat → Int32) (P n : Nat) : s_mhs f A B P n = s_harms (r_jo A B P (f (12 + 4 * n + 2)) (f (12 + 4 * n + 2) + f (12 + 4 * n + 3))) (r_ga A B P (f (12 + 4 * n + 2)) (f (12 + 4 * n + 2) + f (12 + 4 * n + 3))) (r_to A B P (f (12 + 4 * n + 2)) (f (12 + 4 * n + 2) + f (12 + 4 * n + 3))) (r_hi (f 1) A B P (f (12 + 4 * n + 2)) (f (12 + 4 * n + 2) + f (12 + 4 * n + 3))) (f (12 + 4 * n + 0)) (f (12 + 4 * n + 1)) := by
  unfold s_mhs s_harms
  simp only [e_max0]
/-- what a THING sees of a laid row, and what it harms there -/
theorem RR.look {Z N Zm : Nat → Int32} {F G : Nat → Nat → Int32} (h : RR Z N F Zm G) {s : Nat} (h1 : 1 ≤ s) (h2 : s ≤ fT (G 0)) {r : Nat} (hr : r < 8) {n : Nat} (hn : n < (G 0 10).toNatClampNeg) (Z2 : Nat → Int32) :
    (s_look (c_lay Z2 F (nI r) (nI s)) (F 3 n) (F 3 n + F 4 n) 11 = r_jo (r_A (fw (upd (G 0) 6 (nI s)) r) (fT (G 0)) (fJ (G 0))) (r_B (fe (G 0) r) (fw (upd (G 0) 6 (nI s)) r) (fT (G 0)) (fJ (G 0))) (fP (upd (G 0) 6 (nI s)) r) (G 0 (12 + 4 * n + 2)) (G 0 (12 + 4 * n + 2) + G 0 (12 + 4 * n + 3)) ∧
    s_look (c_lay Z2 F (nI r) (nI s)) (F 3 n) (F 3 n + F 4 n) 12 = r_ga (r_A (fw (upd (G 0) 6 (nI s)) r) (fT (G 0)) (fJ (G 0))) (r_B (fe (G 0) r) (fw (upd (G 0) 6 (nI s)) r) (fT (G 0)) (fJ (G 0))) (fP (upd (G 0) 6 (nI s)) r) (G 0 (12 + 4 * n + 2)) (G 0 (12 + 4 * n + 2) + G 0 (12 + 4 * n + 3)) ∧
    s_look (c_lay Z2 F (nI r) (nI s)) (F 3 n) (F 3 n + F 4 n) 13 = r_to (r_A (fw (upd (G 0) 6 (nI s)) r) (fT (G 0)) (fJ (G 0))) (r_B (fe (G 0) r) (fw (upd (G 0) 6 (nI s)) r) (fT (G 0)) (fJ (G 0))) (fP (upd (G 0) 6 (nI s)) r) (G 0 (12 + 4 * n + 2)) (G 0 (12 + 4 * n + 2) + G 0 (12 + 4 * n + 3)) ∧
    s_look (c_lay Z2 F (nI r) (nI s)) (F 3 n) (F 3 n + F 4 n) 14 = r_hi (G 0 1) (r_A (fw (upd (G 0) 6 (nI s)) r) (fT (G 0)) (fJ (G 0))) (r_B (fe (G 0) r) (fw (upd (G 0) 6 (nI s)) r) (fT (G 0)) (fJ (G 0))) (fP (upd (G 0) 6 (nI s)) r) (G 0 (12 + 4 * n + 2)) (G 0 (12 + 4 * n + 2) + G 0 (12 + 4 * n + 3))) ∧
    s_hv (c_lay Z2 F (nI r) (nI s)) N F (nI n) = r_hv (upd (G 0) 6 (nI s)) (r_A (fw (upd (G 0) 6 (nI s)) r) (fT (G 0)) (fJ (G 0))) (r_B (fe (G 0) r) (fw (upd (G 0) 6 (nI s)) r) (fT (G 0)) (fJ (G 0))) (fP (upd (G 0) 6 (nI s)) r) n := by
  have hT := (g_TJR h.wall).1.1
  have hM := h.M
  have k1 : rw_ok (c_lay Z2 F (nI r) (nI s)) (fe (G 0) r) (fw (upd (G 0) 6 (nI s)) r) (fT (G 0)) (fJ (G 0)) := c_lay_ok (fun i hi => h.F0 hi) h.wall Z2 hr h1 h2
  obtain ⟨⟨⟨kd, d1, d2⟩, ⟨mk, d3, d4⟩, ⟨a, d5, d6⟩, ⟨wd, d7, d8, d9⟩⟩, t1, t2, t3, t4⟩ := h.th hn
  have L : s_look (c_lay Z2 F (nI r) (nI s)) (nI a) (nI (a + wd)) 11 = r_jo (r_A (fw (upd (G 0) 6 (nI s)) r) (fT (G 0)) (fJ (G 0))) (r_B (fe (G 0) r) (fw (upd (G 0) 6 (nI s)) r) (fT (G 0)) (fJ (G 0))) (fP (upd (G 0) 6 (nI s)) r) (nI a) (nI (a + wd)) ∧ s_look (c_lay Z2 F (nI r) (nI s)) (nI a) (nI (a + wd)) 12 = r_ga (r_A (fw (upd (G 0) 6 (nI s)) r) (fT (G 0)) (fJ (G 0))) (r_B (fe (G 0) r) (fw (upd (G 0) 6 (nI s)) r) (fT (G 0)) (fJ (G 0))) (fP (upd (G 0) 6 (nI s)) r) (nI a) (nI (a + wd)) ∧ s_look (c_lay Z2 F (nI r) (nI s)) (nI a) (nI (a + wd)) 13 = r_to (r_A (fw (upd (G 0) 6 (nI s)) r) (fT (G 0)) (fJ (G 0))) (r_B (fe (G 0) r) (fw (upd (G 0) 6 (nI s)) r) (fT (G 0)) (fJ (G 0))) (fP (upd (G 0) 6 (nI s)) r) (nI a) (nI (a + wd)) ∧ s_look (c_lay Z2 F (nI r) (nI s)) (nI a) (nI (a + wd)) 14 = r_hi (nI (fT (G 0))) (r_A (fw (upd (G 0) 6 (nI s)) r) (fT (G 0)) (fJ (G 0))) (r_B (fe (G 0) r) (fw (upd (G 0) 6 (nI s)) r) (fT (G 0)) (fJ (G 0))) (fP (upd (G 0) 6 (nI s)) r) (nI a) (nI (a + wd)) := h_look k1 d5 (by omega) (by omega)
  have f0 : ∀ i : Nat, i < 4 → upd (G 0) 6 (nI s) (12 + 4 * n + i) = G 0 (12 + 4 * n + i) := fun i hi => px_upd_ne _ _ (by omega)
  have e3 : F 3 n = nI a := t3.trans d6
  have e4 : F 4 n = nI wd := t4.trans d9
  have e34 : F 3 n + F 4 n = nI (a + wd) := by rw [e3, e4, nI_add]
  have g34 : G 0 (12 + 4 * n + 2) + G 0 (12 + 4 * n + 3) = nI (a + wd) := by rw [d6, d9, nI_add]
  refine ⟨?_, ?_⟩
  · rw [e34, e3, g34, d6, hT]
    exact L
  · unfold s_hv
    rw [nI_clamp (n := n) (by omega), e34, e3, L.1, L.2.1, L.2.2.1, L.2.2.2, h.ruled1]
    unfold r_hv s_mt1
    rw [e_mhs, f0 0 (by omega), f0 1 (by omega), f0 2 (by omega), f0 3 (by omega), g34, d6, show upd (G 0) 6 (nI s) 1 = nI (fT (G 0)) from (px_upd_ne _ _ (by omega)).trans hT, t1, t2]
    exact s_mtold1_cg (f := G 0) (g := upd (G 0) 6 (nI s)) (fun j hj => (px_upd_ne _ _ (by omega)).symm) _ _ _
theorem RR.hall {Z N Zm : Nat → Int32} {F G : Nat → Nat → Int32} (h : RR Z N F Zm G) {s : Nat} (h1 : 1 ≤ s) (h2 : s ≤ fT (G 0)) : ∀ (m k : Nat) (a : Int32), k + m ≤ 8 → s_hall N F (G 0 10).toNatClampNeg (nI s) m k a = r_hall (upd (G 0) 6 (nI s)) (fT (G 0)) (fJ (G 0)) (G 0 10).toNatClampNeg (fe (G 0)) (fw (upd (G 0) 6 (nI s))) (fP (upd (G 0) 6 (nI s))) m k a
  | 0, _, _, _ => rfl
  | m + 1, k, a, hk => by
    have e : s_hrow N F (G 0 10).toNatClampNeg (nI k) (nI s) a = r_hrow (upd (G 0) 6 (nI s)) (fT (G 0)) (fJ (G 0)) (G 0 10).toNatClampNeg (fe (G 0)) (fw (upd (G 0) 6 (nI s))) (fP (upd (G 0) 6 (nI s))) k a := by
      unfold s_hrow r_hrow
      exact c_fold_cg _ _ _ (fun j _ hj => (h.look h1 h2 (by omega) (show j < (G 0 10).toNatClampNeg by omega) (fun _ => 0)).2)
    show s_hall N F (G 0 10).toNatClampNeg (nI s) m (k + 1) (s_hrow N F (G 0 10).toNatClampNeg (nI k) (nI s) a) = _
    rw [e]
    exact RR.hall h h1 h2 m (k + 1) _ (by omega)
theorem st_seenT (thing row what : Int32) : px_st 63 170 [.int thing, .int row, .int what] True := by
  intro Z N F Zm G h
  have hM := h.M
  refine px_st_of (kc_seen h.1 h.hT thing row what) (by decide) (kc_mseen (g_ok h.wall) h.M.1 h.M.2.1 h.tx1 thing row what) (by decide) h (fun _ => ?_)
  obtain ⟨⟨hT, hT1, hT2⟩, hJ, hR, hR1, hR8⟩ := g_TJR h.wall
  unfold s_seen s_mseen
  have e1 : N 1 = G 0 10 := h.2.2.1.2.2.2.1.1
  have e4 : F 0 4 = G 0 4 := h.F0 (by omega)
  have hq := zz_rowq (t := thing) hM.1 (by omega)
  have hq2 := zz_rowq (t := row) hR (by omega)
  rw [e1, e4]
  by_cases c : thing < 0 ∨ G 0 10 ≤ thing
  · rw [if_pos c, if_neg (fun q => hq.mpr q c)]
  · rw [if_neg c, if_pos (hq.mp c)]
    by_cases c2 : row < 0 ∨ G 0 4 ≤ row
    · rw [if_pos c2, if_neg (fun q => hq2.mpr q c2)]
    · rw [if_neg c2, if_pos (hq2.mp c2)]
      obtain ⟨n, hn, rfl⟩ := zz_rown hM.1 (by omega) c
      obtain ⟨r, hr, rfl⟩ := zz_rown hR (by omega) c2
      obtain ⟨S, q1, q2, q3, q4, q5⟩ := h.S
      have K := h.look q1 q2 (show r < 8 by omega) hn Z
      rw [q5] at K
      rw [nI_clamp (n := n) (by omega), nI_clamp (n := r) (by omega), q4]
      by_cases c3 : 0 ≤ what ∧ what ≤ 4
      · rw [if_pos c3]
        by_cases w0 : what = 0
        · rw [if_pos w0, if_pos w0]; exact K.1.1
        by_cases w1 : what = 1
        · rw [if_neg w0, if_neg w0, if_pos w1, if_pos w1]; exact K.1.2.1
        by_cases w2 : what = 2
        · rw [if_neg w0, if_neg w0, if_neg w1, if_neg w1, if_pos w2, if_pos w2]; exact K.1.2.2.1
        by_cases w3 : what = 3
        · rw [if_neg w0, if_neg w0, if_neg w1, if_neg w1, if_neg w2, if_neg w2, if_pos w3, if_pos w3]; exact K.1.2.2.2
        have w4 : what = 4 := by
          obtain ⟨e, hl⟩ := px_in5 (n := 4) (by decide) c3
          rcases (show what.toNatClampNeg = 0 ∨ what.toNatClampNeg = 1 ∨ what.toNatClampNeg = 2 ∨ what.toNatClampNeg = 3 ∨ what.toNatClampNeg = 4 by omega) with z | z | z | z | z
          · exact absurd (by rw [e, z]; rfl) w0
          · exact absurd (by rw [e, z]; rfl) w1
          · exact absurd (by rw [e, z]; rfl) w2
          · exact absurd (by rw [e, z]; rfl) w3
          · rw [e, z]; rfl
        rw [if_neg w0, if_neg w0, if_neg w1, if_neg w1, if_neg w2, if_neg w2, if_neg w3, if_neg w3, if_pos w4]
        exact K.2
      · rw [if_neg c3]
        have ne : ∀ k : Nat, k ≤ 4 → ¬ (what = nI k) := fun k hk q => c3 (by rw [q]; exact ⟨nI_pos' (by omega), nI_le (b := 4) hk (by omega)⟩)
        rw [if_neg (show ¬ (what = 0) from ne 0 (by omega)), if_neg (show ¬ (what = 1) from ne 1 (by omega)), if_neg (show ¬ (what = 2) from ne 2 (by omega)), if_neg (show ¬ (what = 3) from ne 3 (by omega)), if_neg (show ¬ (what = 4) from ne 4 (by omega))]
theorem RR.halv {Z N Zm : Nat → Int32} {F G : Nat → Nat → Int32} (h : RR Z N F Zm G) : c_halves F (fR (G 0)) = r_all2 G (fT (G 0)) (fJ (G 0)) (fR (G 0)) (fe (G 0)) (fw (G 0)) (fP (G 0)) ∧ c_pcs F (fR (G 0)) = r_all3 G (fT (G 0)) (fJ (G 0)) (fR (G 0)) (fe (G 0)) (fw (G 0)) (fP (G 0)) ∧ c_cuts F (fR (G 0)) (F 0 6) = r_all0 G (fT (G 0)) (fJ (G 0)) (fR (G 0)) (fe (G 0)) (fw (G 0)) (fP (G 0)) ∧ c_nar F (fR (G 0)) (F 0 6) = r_all1 G (fT (G 0)) (fJ (G 0)) (fR (G 0)) (fe (G 0)) (fw (G 0)) (fP (G 0)) := by
  obtain ⟨⟨hT, hT1, hT2⟩, hJ, hR, hR1, hR8⟩ := g_TJR h.wall
  obtain ⟨S, q1, q2, q3, q4, q5⟩ := h.S
  refine ⟨?_, ?_, ?_, ?_⟩
  · unfold c_halves r_all2
    refine c_fold_cg _ _ _ (fun j _ hj => ?_)
    have k := h.lay (fun _ => 0) (r := j) (by omega)
    rw [hT]
    exact w_halves_n k
  · unfold c_pcs r_all3
    refine c_fold_cg _ _ _ (fun j _ hj => ?_)
    have k := h.lay (fun _ => 0) (r := j) (by omega)
    exact k.1.2.2.2.2
  · have k := h.cutS q1 q2
    rw [q4, k]
    unfold r_cutS r_all0
    dsimp only
    rw [q5]
  · have k := h.narS q1 q2
    rw [q4, k]
    unfold r_narS r_all1
    dsimp only
    rw [q5]
theorem st_buyT (what : Int32) : px_st 64 172 [.int what] True := by
  intro Z N F Zm G h
  obtain ⟨hT, hJ, hR, hR1, hR8⟩ := g_TJR h.wall
  refine px_st_of (kc_buy h.1 h.hT h.M.2.2.1 h.M.2.1 ((h.F0 (by decide)).trans hR) hR8 what) (by decide) (kc_mbuy (g_ok h.wall) h.M.1 h.M.2.1 h.tx1 h.tx0 what) (by decide) h (fun _ => ?_)
  obtain ⟨S, q1, q2, q3, q4, q5⟩ := h.S
  obtain ⟨k2, k3, k0, k1⟩ := h.halv
  have et : s_tiles (fR (G 0)) N F = s_mtiles G (fT (G 0)) (fJ (G 0)) (fR (G 0)) (fe (G 0)) (fw (G 0)) (fP (G 0)) := by
    unfold s_tiles s_mtiles
    rw [k0, k2, k3, h.ruled0, show F 0 1 = G 0 1 from h.F0 (by omega)]
    rfl
  have eh := h.hall q1 q2 (fR (G 0)) 0 0 (by omega)
  rw [q5, ← q4] at eh
  unfold s_buy s_mbuy
  rw [et, k0, k1, k2, eh]
  have e40 : ∀ x : Int32, i_quo x 40 = x / 40 := fun x => if_neg (by decide)
  rw [e40]
theorem s_calm_m {h1 h2 : Nat → Int32} : ∀ (m k : Nat) (a : Nat × Int32), 1 ≤ a.1 → 1 ≤ k → (∀ j : Nat, k ≤ j → j < k + m → h1 j = h2 j) → s_calm h1 m k a = s_mcalm h2 m k a
  | 0, _, _, _, _, _ => rfl
  | m + 1, k, a, ha, hk, he => by
    show s_calm h1 m (k + 1) (if h1 k < a.2 then (k, h1 k) else a) = s_mcalm h2 m (k + 1) (if a.1 = 0 then (k, h2 k) else if a.2 ≤ h2 k then a else (k, h2 k))
    rw [he k (Nat.le_refl k) (by omega), if_neg (show ¬ (a.1 = 0) by omega)]
    have e : (if h2 k < a.2 then (k, h2 k) else a) = (if a.2 ≤ h2 k then a else (k, h2 k)) := by
      by_cases c : h2 k < a.2
      · rw [if_pos c, if_neg (Int32.not_le.mpr c)]
      · rw [if_neg c, if_pos (Int32.not_lt.mp c)]
    rw [e]
    refine s_calm_m m (k + 1) _ ?_ (by omega) (fun j a b => he j (by omega) (by omega))
    split
    · exact ha
    · exact hk
theorem st_calmT (what : Int32) : px_st 68 177 [.int what] True := by
  intro Z N F Zm G h
  obtain ⟨⟨hT, hT1, hT2⟩, hJ, hR, hR1, hR8⟩ := g_TJR h.wall
  refine px_st_of (kc_calm h.1 h.hT h.M.2.2.1 h.M.2.1 ((h.F0 (by decide)).trans hR) hR8 ((h.F0 (by decide)).trans hT) hT2 (by omega) what) (by decide) (kc_mcalm hT hT2 (g_okS h.wall) h.M.1 h.M.2.1 h.tx1 what) (by decide) h (fun _ => ?_)
  have eh : ∀ j : Nat, 1 ≤ j → j ≤ fT (G 0) → s_hall N F (G 0 10).toNatClampNeg (nI j) (fR (G 0)) 0 0 = r_hS (G 0) (fT (G 0)) (fJ (G 0)) (fR (G 0)) (G 0 10).toNatClampNeg (fe (G 0)) (fun s => fw (upd (G 0) 6 (nI s))) (fun s => fP (upd (G 0) 6 (nI s))) j := fun j j1 j2 => h.hall j1 j2 (fR (G 0)) 0 0 (by omega)
  obtain ⟨t, ht⟩ : ∃ t, fT (G 0) = t + 1 := ⟨fT (G 0) - 1, by omega⟩
  have e1 := eh 1 (by omega) (by omega)
  have key : s_calm (fun s => s_hall N F (G 0 10).toNatClampNeg (nI s) (fR (G 0)) 0 0) (fT (G 0) - 1) 2 (1, s_hall N F (G 0 10).toNatClampNeg 1 (fR (G 0)) 0 0) = s_mcalm (r_hS (G 0) (fT (G 0)) (fJ (G 0)) (fR (G 0)) (G 0 10).toNatClampNeg (fe (G 0)) (fun s => fw (upd (G 0) 6 (nI s))) (fun s => fP (upd (G 0) 6 (nI s)))) (fT (G 0)) 1 (0, 0) := by
    rw [show s_hall N F (G 0 10).toNatClampNeg 1 (fR (G 0)) 0 0 = s_hall N F (G 0 10).toNatClampNeg (nI 1) (fR (G 0)) 0 0 from rfl, e1]
    generalize hg : r_hS (G 0) (fT (G 0)) (fJ (G 0)) (fR (G 0)) (G 0 10).toNatClampNeg (fe (G 0)) (fun s => fw (upd (G 0) 6 (nI s))) (fun s => fP (upd (G 0) 6 (nI s))) = g at eh ⊢
    have e2 : s_mcalm g (fT (G 0)) 1 (0, 0) = s_mcalm g (fT (G 0) - 1) 2 (1, g 1) := by
      rw [ht]
      rfl
    rw [e2]
    exact s_calm_m _ 2 (1, g 1) (Nat.le_refl 1) (by omega) (fun j j1 j2 => eh j (by omega) (by omega))
  unfold s_calmv s_mcalmv
  rw [key, zz_01]
