/-! part 66.first -/
section
/-- as both constructors leave it -/
theorem RR.first0 : RR px_Z0 px_N0 px_F0 (fun _ => 0) px_G0 := by
  have hw : g_wall px_s0 := ⟨2000, 150, 2, 1, 0, 150, rfl, rfl, rfl, rfl, rfl, rfl, by omega, by omega, by omega, by omega, by omega, by omega, by omega, by omega, by omega, by omega, by decide, by decide⟩
  have hr : g_row_ok px_s0 := ⟨hw, ⟨0, by omega, rfl⟩, ⟨0, by omega, rfl⟩, ⟨0, by omega, rfl, fun n hn => absurd hn (Nat.not_lt_zero n)⟩, Or.inl rfl, Or.inl rfl⟩
  have hg : g_rel 0 (px_Z0 0) px_N0 px_F0 px_s0 := by
    refine ⟨fun i hi => ?_, rfl, ⟨rfl, rfl⟩, ⟨rfl, rfl, rfl, rfl⟩, fun n hn => absurd hn (Nat.not_lt_zero n), fun n hn => absurd hn (Nat.not_lt_zero n), fun n hn => absurd hn (Nat.not_lt_zero n)⟩
    rcases (show i = 0 ∨ i = 1 ∨ i = 2 ∨ i = 3 ∨ i = 4 ∨ i = 5 ∨ i = 6 by omega) with rfl | rfl | rfl | rfl | rfl | rfl | rfl <;> rfl
  have hc : px_cw px_N0 := ⟨rfl, rfl, rfl, by decide +kernel⟩
  refine ⟨hc, hr, hg, rfl, fun q => (q rfl).elim, fun k hk => ?_, rfl, rfl, ⟨by decide, by decide⟩, ⟨fun i hi => absurd hi (Nat.not_lt_zero i), g_tu.nil rfl rfl, g_tu.nil rfl rfl⟩, fun q => (q rfl).elim⟩
  rcases (show k = 0 ∨ k = 1 ∨ k = 2 ∨ k = 3 by omega) with rfl | rfl | rfl | rfl <;> exact ⟨rfl, Or.inl rfl, ⟨0, by omega, rfl⟩, fun q => (q rfl).elim⟩
end
/-! part 66.same -/
section
/-! answers equal, of calls kept safe in 57 -/
theorem zz_held {q T : Int32} : (if q < 1 then T else (if q ≤ T then q else T)) = if 1 ≤ q ∧ q ≤ T then q else T := by
  by_cases c : q < 1
  · rw [if_pos c, if_neg (fun w => Int32.not_lt.mpr w.1 c)]
  · rw [if_neg c]
    by_cases c2 : q ≤ T
    · rw [if_pos c2, if_pos ⟨Int32.not_lt.mp c, c2⟩]
    · rw [if_neg c2, if_neg (fun w => c2 w.2)]
theorem zz_01 {w e x : Int32} : (if w < 0 then e else (if w ≤ 1 then x else e)) = if 0 ≤ w ∧ w ≤ 1 then x else e := by
  by_cases c : w < 0
  · rw [if_pos c, if_neg (fun q => Int32.not_lt.mpr q.1 c)]
  · rw [if_neg c]
    by_cases c2 : w ≤ 1
    · rw [if_pos c2, if_pos ⟨Int32.not_lt.mp c, c2⟩]
    · rw [if_neg c2, if_neg (fun q => c2 q.2)]
theorem st_middleT (what : Int32) : px_st 70 179 [.int what] True := by
  intro Z N F Zm G h
  obtain ⟨⟨hT, hT1, hT2⟩, ⟨hJ, hJ9⟩, hR, hR1, hR8⟩ := g_TJR h.wall
  have hb : ¬ (G 0 1 + G 0 2 = 0) := fun q => by
    rw [hT, hJ] at q
    have e := zz_add (a := fT (G 0)) (b := fJ (G 0)) (nI_toInt (by omega)) (nI_toInt (by omega)) (by omega) (by omega)
    rw [q, show (0 : Int32).toInt = 0 from rfl] at e
    omega
  refine px_st_of (kc_middle h.1 what) (by decide) (kc_mmiddle hb what) (by decide) h (fun _ => ?_)
  unfold s_middle s_mmiddle
  rw [h.F0 (i := 0) (by decide), h.F0 (i := 1) (by decide), h.F0 (i := 2) (by decide)]
  have er : ∀ a : Int32, i_rem a (G 0 1 + G 0 2) = a - a / (G 0 1 + G 0 2) * (G 0 1 + G 0 2) := fun a => if_neg hb
  rw [er, er, zz_held, zz_held, zz_01]
theorem zz_addN {a b : Nat} (h : a + b < 100000) : nI a + nI b = nI (a + b) := by
  apply Int32.toInt_inj.mp
  rw [zz_add (nI_toInt (n := a) (by omega)) (nI_toInt (n := b) (by omega)) (by omega) (by omega), nI_toInt (by omega)]
  omega
theorem zz_find_cg {p q : Nat → Bool} : ∀ (m k : Nat), (∀ j : Nat, k ≤ j → j < k + m → p j = q j) → zz_find p m k = zz_find q m k
  | 0, _, _ => rfl
  | m + 1, k, h => by
      unfold zz_find
      rw [h k (by omega) (by omega), zz_find_cg m (k + 1) (fun j h1 h2 => h j (by omega) (by omega))]
theorem zz_find_in {p : Nat → Bool} : ∀ (m k j : Nat), zz_find p m k = some j → j < k + m
  | 0, _, _, h => by cases h
  | m + 1, k, j, h => by
      unfold zz_find at h
      split at h
      · cases h; omega
      · have := zz_find_in m (k + 1) j h; omega
theorem st_cheatT (what : Int32) : px_st 69 178 [.int what] True := by
  intro Z N F Zm G h
  obtain ⟨⟨hT, hT1, hT2⟩, hJ, hR, hR1, hR8⟩ := g_TJR h.wall
  have hL : ∃ L : Nat, L ≤ 4000 ∧ G 0 0 = nI L := by
    obtain ⟨L, T, J, R, B, S, h0, h1', h2', h4, h5, h6, a1, a2, a3, a4, a5, a6, a7, a8, a9, a10, k1, k2⟩ := h.wall
    exact ⟨L, by omega, h0⟩
  obtain ⟨L, l1, l2⟩ := hL
  refine px_st_of (kc_cheat h.1 what) (by decide) (kc_mcheat hT l2 (by omega) hT2 l1 what) (by decide) h (fun _ => ?_)
  have f0 : F 0 0 = nI L := (h.F0 (by decide)).trans l2
  have f1 : F 0 1 = nI (fT (G 0)) := (h.F0 (by decide)).trans hT
  have ef : zz_find (s_chp F) 10 0 = zz_find (s_mchp L (fT (G 0))) 10 0 := by
    refine zz_find_cg _ _ (fun j h1 h2 => ?_)
    unfold s_chp s_mchp
    rw [f0, f1, zz_addN (by omega), zz_addN (by omega), i_rem_n (by omega) (by omega) (by omega)]
    have hm := Nat.mod_le (L + j) (fT (G 0) + j)
    exact decide_eq_decide.mpr (nI_eq (b := 0) (by omega) (by omega))
  unfold s_cheat s_mcheat
  rw [zz_01, ef]
  have ee : s_cheatE F what (zz_find (s_mchp L (fT (G 0))) 10 0) = s_mcheatE L (fT (G 0)) what (zz_find (s_mchp L (fT (G 0))) 10 0) := by
    cases hz : zz_find (s_mchp L (fT (G 0))) 10 0 with
    | none => rfl
    | some j =>
      have hj := zz_find_in _ _ _ hz
      unfold s_cheatE s_mcheatE
      dsimp only
      rw [f0, f1, zz_addN (by omega), zz_addN (by omega)]
      have eq : i_quo (nI (L + j)) (nI (fT (G 0) + j)) = nI ((L + j) / (fT (G 0) + j)) := by
        unfold i_quo
        rw [if_neg (fun q => by have := (nI_eq (b := 0) (by omega) (by omega)).mp q; omega), zz_div (by omega) (by omega)]
      rw [eq]
  rw [ee]
theorem c_fold_cg {f g : Nat → Int32} {op : Int32 → Int32 → Int32} : ∀ (m k : Nat) (a : Int32), (∀ j : Nat, k ≤ j → j < k + m → f j = g j) → c_fold f op m k a = c_fold g op m k a
  | 0, _, _, _ => rfl
  | m + 1, k, a, h => by
      unfold c_fold
      rw [h k (by omega) (by omega)]
      exact c_fold_cg m (k + 1) _ (fun j h1 h2 => h j (by omega) (by omega))
/-- CUTS at a start, of both -/
theorem RR.cutS {Z N Zm : Nat → Int32} {F G : Nat → Nat → Int32} (h : RR Z N F Zm G) {s : Nat} (h1 : 1 ≤ s) (h2 : s ≤ fT (G 0)) : c_cuts F (fR (G 0)) (nI s) = r_cutS (G 0) (fT (G 0)) (fJ (G 0)) (fR (G 0)) (fe (G 0)) (fun s => fw (upd (G 0) 6 (nI s))) (fun s => fP (upd (G 0) 6 (nI s))) s := by
  obtain ⟨⟨hT, hT1, hT2⟩, hJ, hR, hR1, hR8⟩ := g_TJR h.wall
  unfold c_cuts r_cutS
  refine c_fold_cg _ _ _ (fun j _ hj => ?_)
  have k := c_lay_ok (fun i hi => h.F0 hi) h.wall (fun _ => 0) (r := j) (by omega) h1 h2
  rw [hT]
  exact w_cuts_n k
theorem zz_mn_le (g : Nat → Int32) : ∀ (m k : Nat) (a : Int32), zz_mn g m k a ≤ a
  | 0, _, a => Int32.le_refl a
  | m + 1, k, a => by
      unfold zz_mn
      refine Int32.le_trans (zz_mn_le g m (k + 1) _) ?_
      by_cases c : a ≤ g k
      · rw [if_pos c]; exact Int32.le_refl a
      · rw [if_neg c]; exact Int32.le_of_lt (Int32.not_le.mp c)
theorem i_min_op : i_min = fun v o : Int32 => if v ≤ o then v else o := by
  funext v o
  unfold i_min
  by_cases c : o < v
  · rw [if_pos c, if_neg (Int32.not_le.mpr c)]
  · rw [if_neg c, if_pos (Int32.not_lt.mp c)]
/-- the NARROWEST piece at a start, of both -/
theorem RR.narS {Z N Zm : Nat → Int32} {F G : Nat → Nat → Int32} (h : RR Z N F Zm G) {s : Nat} (h1 : 1 ≤ s) (h2 : s ≤ fT (G 0)) : c_nar F (fR (G 0)) (nI s) = r_narS (G 0) (fT (G 0)) (fJ (G 0)) (fR (G 0)) (fe (G 0)) (fun s => fw (upd (G 0) 6 (nI s))) (fun s => fP (upd (G 0) 6 (nI s))) s := by
  obtain ⟨⟨hT, hT1, hT2⟩, hJ, hR, hR1, hR8⟩ := g_TJR h.wall
  have f1 : F 0 1 = nI (fT (G 0)) := (h.F0 (by decide)).trans hT
  unfold c_nar r_narS
  rw [f1]
  refine (c_fold_cg _ _ _ (g := fun r => r_nar (r_B (fe (G 0) r) (fw (upd (G 0) 6 (nI s)) r) (fT (G 0)) (fJ (G 0))) (fP (upd (G 0) 6 (nI s)) r)) (fun j _ hj => ?_)).trans ?_
  · exact w_nar_n (c_lay_ok (fun i hi => h.F0 hi) h.wall (fun _ => 0) (r := j) (by omega) h1 h2)
  · have hw0 : fw (upd (G 0) 6 (nI s)) 0 ≤ fT (G 0) := (c_lay_ok (fun i hi => h.F0 hi) h.wall (fun _ => 0) (r := 0) (by omega) h1 h2).2.2.1
    have hx : r_nar (r_B (fe (G 0) 0) (fw (upd (G 0) 6 (nI s)) 0) (fT (G 0)) (fJ (G 0))) (fP (upd (G 0) 6 (nI s)) 0) ≤ nI (fT (G 0)) := by
      refine Int32.le_trans (zz_mn_le _ _ _ _) ?_
      have hl : r_wid (fe (G 0) 0) (fw (upd (G 0) 6 (nI s)) 0) (fT (G 0)) (fJ (G 0)) 0 ≤ fT (G 0) := r_wid_le hw0
      exact (nI_leI (by omega) (by omega)).mpr hl
    obtain ⟨R, eR⟩ : ∃ R, fR (G 0) = R + 1 := ⟨fR (G 0) - 1, by omega⟩
    rw [eR, i_min_op]
    unfold c_fold
    dsimp only
    generalize r_nar (r_B (fe (G 0) 0) (fw (upd (G 0) 6 (nI s)) 0) (fT (G 0)) (fJ (G 0))) (fP (upd (G 0) 6 (nI s)) 0) = x at hx ⊢
    have e1 : (if nI (fT (G 0)) ≤ x then nI (fT (G 0)) else x) = x := by
      by_cases c : nI (fT (G 0)) ≤ x
      · rw [if_pos c]; exact Int32.le_antisymm c hx
      · rw [if_neg c]
    have e2 : (if (9999 : Int32) ≤ x then 9999 else x) = x := by
      refine if_neg (fun q => ?_)
      have q2 : nI 9999 ≤ nI (fT (G 0)) := Int32.le_trans q hx
      have := (nI_leI (by omega) (by omega)).mp q2
      omega
    rw [e1, e2]
theorem s_bst_m {n1 c1 n2 c2 : Nat → Int32} : ∀ (m k : Nat) (a : Nat × Int32 × Int32), 1 ≤ a.1 → 1 ≤ k → (∀ j : Nat, k ≤ j → j < k + m → n1 j = n2 j ∧ c1 j = c2 j) → s_bst n1 c1 m k a = s_mbst n2 c2 m k a
  | 0, _, _, _, _, _ => rfl
  | m + 1, k, a, ha, hk, h => by
      unfold s_bst s_mbst
      rw [(h k (by omega) (by omega)).1, (h k (by omega) (by omega)).2, if_neg (show ¬ (a.1 = 0) by omega)]
      have e : (if n2 k < a.2.1 then a else if a.2.1 < n2 k then (k, n2 k, c2 k) else if c2 k < a.2.2 then (k, n2 k, c2 k) else a) = (if a.2.1 < n2 k then (k, n2 k, c2 k) else if n2 k = a.2.1 then (if a.2.2 ≤ c2 k then a else (k, n2 k, c2 k)) else a) := by
        by_cases p : n2 k < a.2.1
        · have p2 : ¬ (a.2.1 < n2 k) := fun q => Int32.lt_irrefl (Int32.lt_trans p q)
          have p3 : ¬ (n2 k = a.2.1) := fun q => by rw [q] at p; exact Int32.lt_irrefl p
          rw [if_pos p, if_neg p2, if_neg p3]
        · by_cases p2 : a.2.1 < n2 k
          · rw [if_neg p, if_pos p2, if_pos p2]
          · have p3 : n2 k = a.2.1 := Int32.le_antisymm (Int32.not_lt.mp p2) (Int32.not_lt.mp p)
            rw [if_neg p, if_neg p2, if_neg p2, if_pos p3]
            by_cases p4 : c2 k < a.2.2
            · rw [if_pos p4, if_neg (Int32.not_le.mpr p4)]
            · rw [if_neg p4, if_pos (Int32.not_lt.mp p4)]
      rw [← e]
      refine s_bst_m m (k + 1) _ ?_ (by omega) (fun j h1 h2 => h j (by omega) (by omega))
      split
      · exact ha
      · split
        · exact hk
        · split
          · exact hk
          · exact ha
theorem s_bst_inv {n1 c1 : Nat → Int32} {P : Nat × Int32 × Int32 → Prop} : ∀ (m k : Nat) (a : Nat × Int32 × Int32), P a → (∀ j : Nat, k ≤ j → j < k + m → P (j, n1 j, c1 j)) → P (s_bst n1 c1 m k a)
  | 0, _, _, ha, _ => ha
  | m + 1, k, a, ha, h => by
      unfold s_bst
      refine s_bst_inv m (k + 1) _ ?_ (fun j h1 h2 => h j (by omega) (by omega))
      have hk := h k (by omega) (by omega)
      split
      · exact ha
      · split
        · exact hk
        · split
          · exact hk
          · exact ha
theorem s_bst_first {n1 c1 n2 c2 : Nat → Int32} {T : Nat} (hT : 1 ≤ T) (h : ∀ j : Nat, 1 ≤ j → j ≤ T → n1 j = n2 j ∧ c1 j = c2 j) : s_mbst n2 c2 T 1 (0, 0, 0) = s_bst n1 c1 (T - 1) 2 (1, n1 1, c1 1) := by
  obtain ⟨t, rfl⟩ : ∃ t, T = t + 1 := ⟨T - 1, by omega⟩
  have h1 := h 1 (by omega) (by omega)
  rw [h1.1, h1.2]
  exact (s_bst_m t 2 (1, n2 1, c2 1) (Nat.le_refl 1) (by omega) (fun j a b => h j (by omega) (by omega))).symm
theorem zz_02 {w e x : Int32} : (if w < 0 then e else (if w ≤ 2 then x else e)) = if 0 ≤ w ∧ w ≤ 2 then x else e := by
  by_cases c : w < 0
  · rw [if_pos c, if_neg (fun q => Int32.not_lt.mpr q.1 c)]
  · rw [if_neg c]
    by_cases c2 : w ≤ 2
    · rw [if_pos c2, if_pos ⟨Int32.not_lt.mp c, c2⟩]
    · rw [if_neg c2, if_neg (fun q => c2 q.2)]
theorem st_bestT (what : Int32) : px_st 67 176 [.int what] True := by
  intro Z N F Zm G h
  obtain ⟨⟨hT, hT1, hT2⟩, hJ, hR, hR1, hR8⟩ := g_TJR h.wall
  refine px_st_of (kc_best h.1 ((h.F0 (by decide)).trans hR) hR8 ((h.F0 (by decide)).trans hT) hT2 (by omega) what) (by decide) (kc_mbest hT hT2 (g_okS h.wall) what) (by decide) h (fun _ => ?_)
  have e1 := s_bst_first (n1 := fun s => c_nar F (fR (G 0)) (nI s)) (c1 := fun s => c_cuts F (fR (G 0)) (nI s)) (T := fT (G 0)) (by omega) (fun j a b => ⟨h.narS a b, h.cutS a b⟩)
  have inv := s_bst_inv (n1 := fun s => c_nar F (fR (G 0)) (nI s)) (c1 := fun s => c_cuts F (fR (G 0)) (nI s)) (P := fun a => a.2.1 = c_nar F (fR (G 0)) (nI a.1) ∧ a.2.2 = c_cuts F (fR (G 0)) (nI a.1)) (fT (G 0) - 1) 2 (1, c_nar F (fR (G 0)) (nI 1), c_cuts F (fR (G 0)) (nI 1)) ⟨rfl, rfl⟩ (fun j _ _ => ⟨rfl, rfl⟩)
  unfold s_best s_mbest
  rw [zz_02, e1]
  rw [inv.1, inv.2]
  rfl
theorem zz_cd_gcd {x y : Nat} (hy : 0 < y) : ∀ d : Nat, Nat.gcd x y ≤ d → zz_cd x y d = Nat.gcd x y
  | 0, h => by have := Nat.gcd_pos_of_pos_right x hy; omega
  | d + 1, h => by
      have hp := Nat.gcd_pos_of_pos_right x hy
      unfold zz_cd
      by_cases c : d + 1 ≤ 1
      · rw [if_pos c]; omega
      · rw [if_neg c]
        by_cases c2 : x % (d + 1) = 0 ∧ y % (d + 1) = 0
        · rw [if_pos c2]
          have h3 := Nat.le_of_dvd hp (Nat.dvd_gcd (Nat.dvd_of_mod_eq_zero c2.1) (Nat.dvd_of_mod_eq_zero c2.2))
          omega
        · rw [if_neg c2]
          refine zz_cd_gcd hy d ?_
          have hne : Nat.gcd x y ≠ d + 1 := fun q => c2 ⟨Nat.mod_eq_zero_of_dvd (q ▸ Nat.gcd_dvd_left x y), Nat.mod_eq_zero_of_dvd (q ▸ Nat.gcd_dvd_right x y)⟩
          omega
theorem s_odd_cg {n1 n2 : Nat → Int32} (v : Int32) : ∀ (m k n : Nat), (∀ j : Nat, k ≤ j → j < k + m → n1 j = n2 j) → s_odd n1 v m k n = s_odd n2 v m k n
  | 0, _, _, _ => rfl
  | m + 1, k, n, h => by
      unfold s_odd
      rw [h k (by omega) (by omega)]
      exact s_odd_cg v m (k + 1) _ (fun j a b => h j (by omega) (by omega))
theorem st_oddsT (v part : Int32) : px_st 71 181 [.int v, .int part] True := by
  intro Z N F Zm G h
  obtain ⟨⟨hT, hT1, hT2⟩, hJ, hR, hR1, hR8⟩ := g_TJR h.wall
  refine px_st_of (kc_odds h.1 ((h.F0 (by decide)).trans hR) hR8 ((h.F0 (by decide)).trans hT) hT2 v part) (by decide) (kc_modds hT hT2 (g_okS h.wall) (by omega) v part) (by decide) h (fun _ => ?_)
  have f1 : F 0 1 = nI (fT (G 0)) := (h.F0 (by decide)).trans hT
  have e1 := s_odd_cg (n1 := fun s => c_nar F (fR (G 0)) (nI s)) v (fT (G 0)) 1 0 (fun j a b => h.narS (s := j) a (by omega))
  have hle := s_odd_le (fun s => c_nar F (fR (G 0)) (nI s)) v (fT (G 0)) 1 0
  unfold s_odds s_modds
  rw [← e1]
  generalize s_odd (fun s => c_nar F (fR (G 0)) (nI s)) v (fT (G 0)) 1 0 = n at hle ⊢
  have gl := Nat.gcd_le_right (m := n) (n := fT (G 0)) (by omega)
  have gp := Nat.gcd_pos_of_pos_right (m := n) (n := fT (G 0)) (by omega)
  rw [zz_cd_gcd (by omega) (fT (G 0)) gl, f1]
  generalize Nat.gcd n (fT (G 0)) = g at gl gp ⊢
  have hq : ∀ a : Nat, a < 100000 → i_quo (nI a) (nI g) = nI (a / g) := fun a ha => by
    unfold i_quo
    rw [if_neg (fun q => by have := (nI_eq (b := 0) (by omega) (by omega)).mp q; omega), zz_div (by omega) (by omega)]
  rw [hq n (by omega), hq (fT (G 0)) (by omega), zz_01]
  by_cases c : v < 0
  · rw [if_pos c, if_neg (fun q => Int32.not_lt.mpr q.1 c)]
  · rw [if_neg c]
    by_cases c2 : 200 < v
    · rw [if_pos c2, if_neg (fun q => Int32.not_lt.mpr q.2 c2)]
    · rw [if_neg c2, if_pos (show 0 ≤ v ∧ v ≤ 200 from ⟨Int32.not_lt.mp c, Int32.not_lt.mp c2⟩)]
end
/-! part 66.t3.mwalk -/
section
/-! the reference's reader of TEXTS: its methods (66.t3: mtext2.py) -/
theorem mk_look {P : Nat} {T : Nat → Int32} {u : Nat} {Z : Nat → Int32} {F : Nat → Nat → Int32} {a o : Nat} {l : m_L} (h : m_rep P T u Z F a o l) : px_PM 1 126 [.ref 1000] ([], px_MH Z F) (fun r h' => r = some (.int (m_lk P T a)) ∧ h' = ([], px_MH Z F)) := by
  obtain ⟨⟨g1, g2, g3⟩, ⟨h2, h3, h4, h5⟩, h6, h7, h8, h9, h10⟩ := h
  refine px_PM.start (nL := 1) (code := pc_126) rfl rfl ?_
  refine px_PW.steps kt_126.2 6 rfl ?_
  rw [h6, show F 0 (Int32.toNatClampNeg 8) = nI P from g1]
  refine px_PW.steps kt_126.2 1 rfl ?_
  refine px_PW.br (fun c0 => ?_) (fun c0 => ?_)
  · have c0 : nI P ≤ nI a := of_decide_eq_true c0
    have c1 := (nI_leI (a := P) (b := a) (by omega) (by omega)).mp c0
    refine px_PW.steps kt_126.2 1 rfl ?_
    refine px_PW.ret kt_126.2 rfl rfl ?_
    exact ⟨by unfold m_lk; rw [if_neg (by omega)], rfl⟩
  · have c0 : ¬ (nI P ≤ nI a) := of_decide_eq_false c0
    have c1 : a < P := Nat.lt_of_not_le (fun q => c0 ((nI_leI (a := P) (b := a) (by omega) (by omega)).mpr q))
    refine px_PW.steps kt_126.2 6 rfl ?_
    rw [h6]
    refine px_PW.aldN kt_126.2 rfl rfl (n := 286 + a) (show (286 : Int32) + nI a = nI (286 + a) from nI_add 286 a) (by omega) ?_
    refine px_PW.steps kt_126.2 1 rfl ?_
    refine px_PW.ret kt_126.2 rfl rfl ?_
    exact ⟨by unfold m_lk; rw [if_pos c1, ← g3 a c1], rfl⟩
theorem mk_name0 {Z : Nat → Int32} {F : Nat → Nat → Int32} (hz : (Z 4) = 0) (c : Int32) : px_PM 1 127 [.ref 1000, .int c] ([], px_MH Z F) (fun r h' => r = some (.int (if m_nm 0 c then 1 else 0)) ∧ h' = ([], px_MH Z F)) := by
  refine px_PM.start (nL := 2) (code := pc_127) rfl rfl ?_
  refine px_PW.steps kt_127.2 4 rfl ?_
  refine px_PW.br (fun c0 => ?_) (fun c0 => ?_)
  · have c0 : ¬ ((Z 4) = 0) := of_decide_eq_false (px_nt c0)
    exact absurd hz c0
  · have c0 : (Z 4) = 0 := of_decide_eq_true (px_nf c0)
    refine px_PW.steps kt_127.2 3 rfl ?_
    refine px_PW.br (fun c1 => ?_) (fun c1 => ?_)
    · have c1 : ¬ (c = 116) := of_decide_eq_false (px_nt c1)
      refine px_PW.steps kt_127.2 3 rfl ?_
      refine px_PW.br (fun c2 => ?_) (fun c2 => ?_)
      · have c2 : ¬ ((Z 4) = 0) := of_decide_eq_false (px_nt c2)
        exact absurd hz c2
      · have c2 : (Z 4) = 0 := of_decide_eq_true (px_nf c2)
        refine px_PW.steps kt_127.2 3 rfl ?_
        refine px_PW.br (fun c3 => ?_) (fun c3 => ?_)
        · have c3 : c = 99 := of_decide_eq_true c3
          refine px_PW.steps kt_127.2 2 rfl ?_
          refine px_PW.ret kt_127.2 rfl rfl ?_
          exact ⟨by simp_all [m_nm], rfl⟩
        · have c3 : ¬ (c = 99) := of_decide_eq_false c3
          refine px_PW.steps kt_127.2 3 rfl ?_
          refine px_PW.br (fun c4 => ?_) (fun c4 => ?_)
          · have c4 : ¬ (c = 119) := of_decide_eq_false (px_nt c4)
            refine px_PW.steps kt_127.2 2 rfl ?_
            refine px_PW.ret kt_127.2 rfl rfl ?_
            exact ⟨by simp_all [m_nm], rfl⟩
          · have c4 : c = 119 := of_decide_eq_true (px_nf c4)
            refine px_PW.steps kt_127.2 2 rfl ?_
            refine px_PW.ret kt_127.2 rfl rfl ?_
            exact ⟨by simp_all [m_nm], rfl⟩
    · have c1 : c = 116 := of_decide_eq_true (px_nf c1)
      refine px_PW.steps kt_127.2 1 rfl ?_
      refine px_PW.ret kt_127.2 rfl rfl ?_
      exact ⟨by simp_all [m_nm], rfl⟩
theorem mk_name1 {Z : Nat → Int32} {F : Nat → Nat → Int32} (hz : ¬ ((Z 4) = 0)) (c : Int32) : px_PM 1 127 [.ref 1000, .int c] ([], px_MH Z F) (fun r h' => r = some (.int (if m_nm 1 c then 1 else 0)) ∧ h' = ([], px_MH Z F)) := by
  refine px_PM.start (nL := 2) (code := pc_127) rfl rfl ?_
  refine px_PW.steps kt_127.2 4 rfl ?_
  refine px_PW.br (fun c0 => ?_) (fun c0 => ?_)
  · have c0 : ¬ ((Z 4) = 0) := of_decide_eq_false (px_nt c0)
    refine px_PW.steps kt_127.2 2 rfl ?_
    refine px_PW.br (fun c1 => ?_) (fun c1 => ?_)
    · have c1 : ¬ (c = 110) := of_decide_eq_false (px_nt c1)
      refine px_PW.steps kt_127.2 3 rfl ?_
      refine px_PW.br (fun c2 => ?_) (fun c2 => ?_)
      · have c2 : ¬ ((Z 4) = 0) := of_decide_eq_false (px_nt c2)
        refine px_PW.steps kt_127.2 3 rfl ?_
        refine px_PW.br (fun c3 => ?_) (fun c3 => ?_)
        · have c3 : c = 104 := of_decide_eq_true c3
          refine px_PW.steps kt_127.2 2 rfl ?_
          refine px_PW.ret kt_127.2 rfl rfl ?_
          exact ⟨by simp_all [m_nm], rfl⟩
        · have c3 : ¬ (c = 104) := of_decide_eq_false c3
          refine px_PW.steps kt_127.2 3 rfl ?_
          refine px_PW.br (fun c4 => ?_) (fun c4 => ?_)
          · have c4 : ¬ (c = 107) := of_decide_eq_false (px_nt c4)
            refine px_PW.steps kt_127.2 1 rfl ?_
            refine px_PW.ret kt_127.2 rfl rfl ?_
            exact ⟨by simp_all [m_nm], rfl⟩
          · have c4 : c = 107 := of_decide_eq_true (px_nf c4)
            refine px_PW.steps kt_127.2 2 rfl ?_
            refine px_PW.ret kt_127.2 rfl rfl ?_
            exact ⟨by simp_all [m_nm], rfl⟩
      · have c2 : (Z 4) = 0 := of_decide_eq_true (px_nf c2)
        exact absurd c2 hz
    · have c1 : c = 110 := of_decide_eq_true (px_nf c1)
      refine px_PW.steps kt_127.2 1 rfl ?_
      refine px_PW.ret kt_127.2 rfl rfl ?_
      exact ⟨by simp_all [m_nm], rfl⟩
  · have c0 : (Z 4) = 0 := of_decide_eq_true (px_nf c0)
    exact absurd c0 hz
theorem mk_name {P : Nat} {T : Nat → Int32} {u : Nat} {Z : Nat → Int32} {F : Nat → Nat → Int32} {a o : Nat} {l : m_L} (h : m_rep P T u Z F a o l) (c : Int32) : px_PM 1 127 [.ref 1000, .int c] ([], px_MH Z F) (fun r h' => r = some (.int (if m_nm u c then 1 else 0)) ∧ h' = ([], px_MH Z F)) := by
  obtain ⟨-, ⟨-, -, -, h5⟩, -, -, -, h9, -⟩ := h
  rcases (show u = 0 ∨ u = 1 by omega) with rfl | rfl
  · exact mk_name0 h9 c
  · exact mk_name1 (by rw [h9]; decide) c
theorem mk_step {P : Nat} {T : Nat → Int32} {u : Nat} {Z : Nat → Int32} {F : Nat → Nat → Int32} {a o : Nat} {l : m_L} (h : m_rep P T u Z F a o l) (hl : l.length + 1 ≤ a) (wt v : Int32) : px_PM 1 128 [.ref 1000, .int wt, .int v] ([], px_MH Z F) (fun r h' => r = none ∧ ∃ (Z' : Nat → Int32) (F' : Nat → Nat → Int32), h' = ([], px_MH Z' F') ∧ m_rep P T u Z' F' a o ((wt, v) :: l) ∧ m_same Z F Z' F') := by
  have hr := h.stp hl wt v
  obtain ⟨⟨g1, g2, g3⟩, ⟨h2, h3, h4, h5⟩, h6, h7, h8, h9, h10⟩ := h
  refine px_PM.start (nL := 3) (code := pc_128) rfl rfl ?_
  refine px_PW.steps kt_128.2 7 rfl ?_
  refine ms_5 kt_128.2 rfl (n := 2 * l.length) (by rw [h8]; exact zz_mul 2 _) (by omega) ?_
  refine px_PW.steps kt_128.2 9 rfl ?_
  refine ms_5 kt_128.2 rfl (n := 2 * l.length + 1) (by rw [h8]; exact (congrArg (fun z => z + 1) (zz_mul 2 l.length)).trans (nI_1 _)) (by omega) ?_
  rw [px_up_up, px_up_self]
  refine px_PW.steps kt_128.2 5 rfl ?_
  refine mo_3 kt_128.2 rfl ?_
  rw [h8]
  refine px_PW.ret kt_128.2 rfl rfl ?_
  exact ⟨rfl, _, _, rfl, hr, fun i hi => px_upd_ne _ _ (by omega), fun q hq => px_up_ne _ _ hq⟩
theorem mk_opens {P : Nat} {T : Nat → Int32} {u : Nat} {Z : Nat → Int32} {F : Nat → Nat → Int32} {a o : Nat} {l : m_L} (h : m_rep P T u Z F a o l) (ha : a < P) : px_PM 1 134 [.ref 1000] ([], px_MH Z F) (fun r h' => r = some (.int (if o < 5 then 1 else 0)) ∧ ∃ (Z' : Nat → Int32) (F' : Nat → Nat → Int32), h' = ([], px_MH Z' F') ∧ (o < 5 → m_rep P T u Z' F' (a + 1) (o + 1) l) ∧ (¬ (o < 5) → m_rep P T u Z' F' a o l) ∧ m_same Z F Z' F') := by
  have h0 := h
  obtain ⟨-, ⟨h2, h3, h4, h5⟩, h6, h7, h8, h9, h10⟩ := h
  refine px_PM.start (nL := 1) (code := pc_134) rfl rfl ?_
  refine px_PW.steps kt_134.2 3 rfl ?_
  rw [h7]
  refine px_PW.steps kt_134.2 1 rfl ?_
  refine px_PW.br (fun c0 => ?_) (fun c0 => ?_)
  · have c0 : ¬ (nI o = nI 5) := of_decide_eq_false (px_nt c0)
    have c1 : o < 5 := by
      rcases Nat.lt_or_ge o 5 with q | q
      · exact q
      · exact absurd (by rw [show o = 5 by omega]) c0
    refine px_PW.steps kt_134.2 5 rfl ?_
    refine mo_2 kt_134.2 rfl ?_
    refine px_PW.steps kt_134.2 5 rfl ?_
    refine mo_1 kt_134.2 rfl ?_
    refine px_PW.steps kt_134.2 1 rfl ?_
    refine px_PW.ret kt_134.2 rfl rfl ?_
    exact ⟨by rw [if_pos c1], _, _, rfl, fun _ => (h0.op1 c1).at1 ha, fun q => absurd c1 q, (m_same.z (by omega)).tr (m_same.z (by omega))⟩
  · have c0 : nI o = nI 5 := of_decide_eq_true (px_nf c0)
    have c1 : ¬ (o < 5) := by
      have := (nI_eq (a := o) (b := 5) (by omega) (by omega)).mp c0
      omega
    refine px_PW.steps kt_134.2 1 rfl ?_
    refine px_PW.ret kt_134.2 rfl rfl ?_
    exact ⟨by rw [if_neg c1], _, _, rfl, fun q => absurd q c1, fun _ => h0, m_same.rf⟩
theorem m_loop0 {P : Nat} {T : Nat → Int32} {u : Nat} {a0 o : Nat} (ho : o ≤ 5) (H : ∀ (a1 o1 : Nat) (l1 : m_L) (Z1 : Nat → Int32) (F1 : Nat → Nat → Int32), a0 ≤ a1 → m_ok P T u 130 1 a1 o1 l1 Z1 F1) : ∀ (n a : Nat) (l : m_L) (Z : Nat → Int32) (F : Nat → Nat → Int32), P - a ≤ n → a0 ≤ a → m_rep P T u Z F a o l → px_PW (m_dep 0 o - 1) pc_129 (m_post P T u (0 + 10) a o l Z F) 9 [some (.ref 1000)] [] ([], px_MH Z F)
  | n, a, l, Z, F, hn, h0, h => by
    refine px_PW.steps kt_129.2 1 rfl ?_
    refine px_PW.callV kt_129.2 rfl rfl rfl rfl (mk_look h) (by first | omega | (unfold m_dep; omega)) (fun v h1 q => ?_)
    obtain ⟨rfl, rfl⟩ := q
    refine px_PW.steps kt_129.2 2 rfl ?_
    refine px_PW.br (fun c0 => ?_) (fun c0 => ?_)
    · have c0 : ¬ ((m_lk P T a) = 124) := of_decide_eq_false (px_nt c0)
      refine px_PW.steps kt_129.2 1 rfl ?_
      refine px_PW.ret kt_129.2 rfl rfl ?_
      exact ⟨true, a, o, l, Z, F, rfl, rfl, m_R.le (L := 0) (by unfold m_bin; omega) (by unfold m_sg; simp_all), h, m_same.rf⟩
    · have c0 : (m_lk P T a) = 124 := of_decide_eq_true (px_nf c0)
      refine px_PW.steps kt_129.2 5 rfl ?_
      refine mo_1 kt_129.2 rfl ?_
      have hs : m_sg 0 (m_lk P T a) := by unfold m_sg; simp [c0]
      have hlt : a < P := m_sg_lt hs
      have r1 := h.at1 hlt
      refine px_PW.steps kt_129.2 1 rfl ?_
      refine px_PW.callV kt_129.2 rfl rfl rfl rfl (H _ _ _ _ _ (by omega) r1) (by first | omega | (unfold m_dep; omega)) (fun v h1 q => ?_)
      obtain ⟨b2, a2, o2, l2, Z2, F2, rfl, rfl, R2, r2, s2⟩ := q
      have S2 := R2.S
      refine px_PW.steps kt_129.2 1 rfl ?_
      refine px_PW.br (fun c1 => ?_) (fun c1 => ?_)
      · have c1 : b2 = true := px_b1n (of_decide_eq_false (px_nt c1))
        refine px_PW.steps kt_129.2 3 rfl ?_
        have hl3 : l2.length + 1 ≤ a2 := (by obtain ⟨q1, q2, q3, q4, t, q5, q6, q7⟩ := S2; have := h.2.1.2.2.1; rw [q5, List.length_append]; omega)
        refine px_PW.callV kt_129.2 rfl rfl rfl rfl (mk_step r2 hl3 _ _) (by first | omega | (unfold m_dep; omega)) (fun v h1 q => ?_)
        obtain ⟨rfl, Z3, F3, rfl, r3, s3⟩ := q
        refine px_PW.steps kt_129.2 1 rfl ?_
        have hb2 : b2 = true := c1
        subst hb2
        obtain ⟨q1, q2, q3, q4, t2, q5, q6, q7⟩ := S2
        obtain ⟨e1, e2, e3⟩ := q7 rfl
        have e4 := e3 (by omega)
        obtain rfl : o2 = o := e1
        refine px_PW.imp (m_loop0 ho H (n - 1) a2 ((3, 124) :: l2) Z3 F3 (by omega) (by omega) r3) (fun v h' q => ?_)
        obtain ⟨b9, a9, o9, l9, Z9, F9, rfl, rfl, R9, r9, s9⟩ := q
        exact ⟨b9, a9, o9, l9, Z9, F9, rfl, rfl, m_R.lt (L := 0) (by unfold m_bin; omega) hs R2 (by rw [c0]; exact R9), r9, (((m_same.z (k := 1) (by omega)).tr s2).tr s3).tr s9⟩
      · have c1 : ¬ (b2 = true) := px_b1z (of_decide_eq_true (px_nf c1))
        refine px_PW.steps kt_129.2 1 rfl ?_
        refine px_PW.ret kt_129.2 rfl rfl ?_
        exact ⟨false, a2, o2, l2, _, _, rfl, rfl, m_R.lf (L := 0) (by unfold m_bin; omega) hs (by simp only [Bool.not_eq_true] at c1; subst c1; exact R2), r2, ((m_same.z (k := 1) (by omega)).tr s2)⟩
theorem mk_lev0 {P : Nat} {T : Nat → Int32} {u : Nat} {Z : Nat → Int32} {F : Nat → Nat → Int32} {a o : Nat} {l : m_L} (H : ∀ (a1 o1 : Nat) (l1 : m_L) (Z1 : Nat → Int32) (F1 : Nat → Nat → Int32), a ≤ a1 → m_ok P T u 130 1 a1 o1 l1 Z1 F1) : m_ok P T u 129 0 a o l Z F := by
  intro h
  have ho : o ≤ 5 := h.2.1.2.1
  rw [show m_dep 0 o = (m_dep 0 o - 1) + 1 by unfold m_dep; omega]
  refine px_PM.start (nL := 1) (code := pc_129) rfl rfl ?_
  refine px_PW.steps kt_129.2 1 rfl ?_
  refine px_PW.callV kt_129.2 rfl rfl rfl rfl (H _ _ _ _ _ (Nat.le_refl a) h) (by first | omega | (unfold m_dep; omega)) (fun v h1 q => ?_)
  obtain ⟨b4, a4, o4, l4, Z4, F4, rfl, rfl, R4, r4, s4⟩ := q
  have S4 := R4.S
  refine px_PW.steps kt_129.2 1 rfl ?_
  refine px_PW.br (fun c0 => ?_) (fun c0 => ?_)
  · have c0 : b4 = true := px_b1n (of_decide_eq_false (px_nt c0))
    have hb : b4 = true := c0
    subst hb
    obtain ⟨q1, q2, q3, q4, t, q5, q6, q7⟩ := S4
    obtain ⟨e1, e2, e3⟩ := q7 rfl
    obtain rfl : o4 = o := e1
    refine px_PW.imp (m_loop0 ho H (P - a4) a4 l4 Z4 F4 (Nat.le_refl _) (by omega) r4) (fun v h' q => ?_)
    obtain ⟨b9, a9, o9, l9, Z9, F9, rfl, rfl, R9, r9, s9⟩ := q
    exact ⟨b9, a9, o9, l9, Z9, F9, rfl, rfl, m_R.bt (L := 0) (by unfold m_bin; omega) R4 R9, r9, (m_same.rf.tr s4).tr s9⟩
  · have c0 : ¬ (b4 = true) := px_b1z (of_decide_eq_true (px_nf c0))
    refine px_PW.steps kt_129.2 1 rfl ?_
    refine px_PW.ret kt_129.2 rfl rfl ?_
    simp only [Bool.not_eq_true] at c0
    subst c0
    exact ⟨false, a4, o4, l4, _, _, rfl, rfl, m_R.bf (L := 0) (by unfold m_bin; omega) R4, r4, (m_same.rf.tr s4)⟩
theorem m_loop1 {P : Nat} {T : Nat → Int32} {u : Nat} {a0 o : Nat} (ho : o ≤ 5) (H : ∀ (a1 o1 : Nat) (l1 : m_L) (Z1 : Nat → Int32) (F1 : Nat → Nat → Int32), a0 ≤ a1 → m_ok P T u 131 2 a1 o1 l1 Z1 F1) : ∀ (n a : Nat) (l : m_L) (Z : Nat → Int32) (F : Nat → Nat → Int32), P - a ≤ n → a0 ≤ a → m_rep P T u Z F a o l → px_PW (m_dep 1 o - 1) pc_130 (m_post P T u (1 + 10) a o l Z F) 9 [some (.ref 1000)] [] ([], px_MH Z F)
  | n, a, l, Z, F, hn, h0, h => by
    refine px_PW.steps kt_130.2 1 rfl ?_
    refine px_PW.callV kt_130.2 rfl rfl rfl rfl (mk_look h) (by first | omega | (unfold m_dep; omega)) (fun v h1 q => ?_)
    obtain ⟨rfl, rfl⟩ := q
    refine px_PW.steps kt_130.2 2 rfl ?_
    refine px_PW.br (fun c0 => ?_) (fun c0 => ?_)
    · have c0 : ¬ ((m_lk P T a) = 38) := of_decide_eq_false (px_nt c0)
      refine px_PW.steps kt_130.2 1 rfl ?_
      refine px_PW.ret kt_130.2 rfl rfl ?_
      exact ⟨true, a, o, l, Z, F, rfl, rfl, m_R.le (L := 1) (by unfold m_bin; omega) (by unfold m_sg; simp_all), h, m_same.rf⟩
    · have c0 : (m_lk P T a) = 38 := of_decide_eq_true (px_nf c0)
      refine px_PW.steps kt_130.2 5 rfl ?_
      refine mo_1 kt_130.2 rfl ?_
      have hs : m_sg 1 (m_lk P T a) := by unfold m_sg; simp [c0]
      have hlt : a < P := m_sg_lt hs
      have r5 := h.at1 hlt
      refine px_PW.steps kt_130.2 1 rfl ?_
      refine px_PW.callV kt_130.2 rfl rfl rfl rfl (H _ _ _ _ _ (by omega) r5) (by first | omega | (unfold m_dep; omega)) (fun v h1 q => ?_)
      obtain ⟨b6, a6, o6, l6, Z6, F6, rfl, rfl, R6, r6, s6⟩ := q
      have S6 := R6.S
      refine px_PW.steps kt_130.2 1 rfl ?_
      refine px_PW.br (fun c1 => ?_) (fun c1 => ?_)
      · have c1 : b6 = true := px_b1n (of_decide_eq_false (px_nt c1))
        refine px_PW.steps kt_130.2 3 rfl ?_
        have hl7 : l6.length + 1 ≤ a6 := (by obtain ⟨q1, q2, q3, q4, t, q5, q6, q7⟩ := S6; have := h.2.1.2.2.1; rw [q5, List.length_append]; omega)
        refine px_PW.callV kt_130.2 rfl rfl rfl rfl (mk_step r6 hl7 _ _) (by first | omega | (unfold m_dep; omega)) (fun v h1 q => ?_)
        obtain ⟨rfl, Z7, F7, rfl, r7, s7⟩ := q
        refine px_PW.steps kt_130.2 1 rfl ?_
        have hb6 : b6 = true := c1
        subst hb6
        obtain ⟨q1, q2, q3, q4, t6, q5, q6, q7⟩ := S6
        obtain ⟨e1, e2, e3⟩ := q7 rfl
        have e4 := e3 (by omega)
        obtain rfl : o6 = o := e1
        refine px_PW.imp (m_loop1 ho H (n - 1) a6 ((3, 38) :: l6) Z7 F7 (by omega) (by omega) r7) (fun v h' q => ?_)
        obtain ⟨b9, a9, o9, l9, Z9, F9, rfl, rfl, R9, r9, s9⟩ := q
        exact ⟨b9, a9, o9, l9, Z9, F9, rfl, rfl, m_R.lt (L := 1) (by unfold m_bin; omega) hs R6 (by rw [c0]; exact R9), r9, (((m_same.z (k := 1) (by omega)).tr s6).tr s7).tr s9⟩
      · have c1 : ¬ (b6 = true) := px_b1z (of_decide_eq_true (px_nf c1))
        refine px_PW.steps kt_130.2 1 rfl ?_
        refine px_PW.ret kt_130.2 rfl rfl ?_
        exact ⟨false, a6, o6, l6, _, _, rfl, rfl, m_R.lf (L := 1) (by unfold m_bin; omega) hs (by simp only [Bool.not_eq_true] at c1; subst c1; exact R6), r6, ((m_same.z (k := 1) (by omega)).tr s6)⟩
theorem mk_lev1 {P : Nat} {T : Nat → Int32} {u : Nat} {Z : Nat → Int32} {F : Nat → Nat → Int32} {a o : Nat} {l : m_L} (H : ∀ (a1 o1 : Nat) (l1 : m_L) (Z1 : Nat → Int32) (F1 : Nat → Nat → Int32), a ≤ a1 → m_ok P T u 131 2 a1 o1 l1 Z1 F1) : m_ok P T u 130 1 a o l Z F := by
  intro h
  have ho : o ≤ 5 := h.2.1.2.1
  rw [show m_dep 1 o = (m_dep 1 o - 1) + 1 by unfold m_dep; omega]
  refine px_PM.start (nL := 1) (code := pc_130) rfl rfl ?_
  refine px_PW.steps kt_130.2 1 rfl ?_
  refine px_PW.callV kt_130.2 rfl rfl rfl rfl (H _ _ _ _ _ (Nat.le_refl a) h) (by first | omega | (unfold m_dep; omega)) (fun v h1 q => ?_)
  obtain ⟨b8, a8, o8, l8, Z8, F8, rfl, rfl, R8, r8, s8⟩ := q
  have S8 := R8.S
  refine px_PW.steps kt_130.2 1 rfl ?_
  refine px_PW.br (fun c0 => ?_) (fun c0 => ?_)
  · have c0 : b8 = true := px_b1n (of_decide_eq_false (px_nt c0))
    have hb : b8 = true := c0
    subst hb
    obtain ⟨q1, q2, q3, q4, t, q5, q6, q7⟩ := S8
    obtain ⟨e1, e2, e3⟩ := q7 rfl
    obtain rfl : o8 = o := e1
    refine px_PW.imp (m_loop1 ho H (P - a8) a8 l8 Z8 F8 (Nat.le_refl _) (by omega) r8) (fun v h' q => ?_)
    obtain ⟨b9, a9, o9, l9, Z9, F9, rfl, rfl, R9, r9, s9⟩ := q
    exact ⟨b9, a9, o9, l9, Z9, F9, rfl, rfl, m_R.bt (L := 1) (by unfold m_bin; omega) R8 R9, r9, (m_same.rf.tr s8).tr s9⟩
  · have c0 : ¬ (b8 = true) := px_b1z (of_decide_eq_true (px_nf c0))
    refine px_PW.steps kt_130.2 1 rfl ?_
    refine px_PW.ret kt_130.2 rfl rfl ?_
    simp only [Bool.not_eq_true] at c0
    subst c0
    exact ⟨false, a8, o8, l8, _, _, rfl, rfl, m_R.bf (L := 1) (by unfold m_bin; omega) R8, r8, (m_same.rf.tr s8)⟩
theorem m_loop3 {P : Nat} {T : Nat → Int32} {u : Nat} {a0 o : Nat} (ho : o ≤ 5) (H : ∀ (a1 o1 : Nat) (l1 : m_L) (Z1 : Nat → Int32) (F1 : Nat → Nat → Int32), a0 ≤ a1 → m_ok P T u 133 4 a1 o1 l1 Z1 F1) : ∀ (n a : Nat) (l : m_L) (Z : Nat → Int32) (F : Nat → Nat → Int32) (w1 : Option Value), P - a ≤ n → a0 ≤ a → m_rep P T u Z F a o l → px_PW (m_dep 3 o - 1) pc_132 (m_post P T u (3 + 10) a o l Z F) 9 [some (.ref 1000), w1] [] ([], px_MH Z F)
  | n, a, l, Z, F, w1, hn, h0, h => by
    refine px_PW.steps kt_132.2 1 rfl ?_
    refine px_PW.callV kt_132.2 rfl rfl rfl rfl (mk_look h) (by first | omega | (unfold m_dep; omega)) (fun v h1 q => ?_)
    obtain ⟨rfl, rfl⟩ := q
    refine px_PW.steps kt_132.2 2 rfl ?_
    refine px_PW.br (fun c0 => ?_) (fun c0 => ?_)
    · have c0 : (m_lk P T a) = 43 := of_decide_eq_true c0
      refine px_PW.steps kt_132.2 1 rfl ?_
      refine px_PW.callV kt_132.2 rfl rfl rfl rfl (mk_look h) (by first | omega | (unfold m_dep; omega)) (fun v h1 q => ?_)
      obtain ⟨rfl, rfl⟩ := q
      refine px_PW.steps kt_132.2 6 rfl ?_
      refine mo_1 kt_132.2 rfl ?_
      have hs : m_sg 3 (m_lk P T a) := by unfold m_sg; simp [c0]
      have hlt : a < P := m_sg_lt hs
      have r9 := h.at1 hlt
      refine px_PW.steps kt_132.2 1 rfl ?_
      refine px_PW.callV kt_132.2 rfl rfl rfl rfl (H _ _ _ _ _ (by omega) r9) (by first | omega | (unfold m_dep; omega)) (fun v h1 q => ?_)
      obtain ⟨b10, a10, o10, l10, Z10, F10, rfl, rfl, R10, r10, s10⟩ := q
      have S10 := R10.S
      refine px_PW.steps kt_132.2 1 rfl ?_
      refine px_PW.br (fun c1 => ?_) (fun c1 => ?_)
      · have c1 : b10 = true := px_b1n (of_decide_eq_false (px_nt c1))
        refine px_PW.steps kt_132.2 3 rfl ?_
        have hl11 : l10.length + 1 ≤ a10 := (by obtain ⟨q1, q2, q3, q4, t, q5, q6, q7⟩ := S10; have := h.2.1.2.2.1; rw [q5, List.length_append]; omega)
        refine px_PW.callV kt_132.2 rfl rfl rfl rfl (mk_step r10 hl11 _ _) (by first | omega | (unfold m_dep; omega)) (fun v h1 q => ?_)
        obtain ⟨rfl, Z11, F11, rfl, r11, s11⟩ := q
        refine px_PW.steps kt_132.2 1 rfl ?_
        have hb10 : b10 = true := c1
        subst hb10
        obtain ⟨q1, q2, q3, q4, t10, q5, q6, q7⟩ := S10
        obtain ⟨e1, e2, e3⟩ := q7 rfl
        have e4 := e3 (by omega)
        obtain rfl : o10 = o := e1
        refine px_PW.imp (m_loop3 ho H (n - 1) a10 ((3, (m_lk P T a)) :: l10) Z11 F11 _ (by omega) (by omega) r11) (fun v h' q => ?_)
        obtain ⟨b9, a9, o9, l9, Z9, F9, rfl, rfl, R9, r9, s9⟩ := q
        exact ⟨b9, a9, o9, l9, Z9, F9, rfl, rfl, m_R.lt (L := 3) (by unfold m_bin; omega) hs R10 R9, r9, (((m_same.z (k := 1) (by omega)).tr s10).tr s11).tr s9⟩
      · have c1 : ¬ (b10 = true) := px_b1z (of_decide_eq_true (px_nf c1))
        refine px_PW.steps kt_132.2 1 rfl ?_
        refine px_PW.ret kt_132.2 rfl rfl ?_
        exact ⟨false, a10, o10, l10, _, _, rfl, rfl, m_R.lf (L := 3) (by unfold m_bin; omega) hs (by simp only [Bool.not_eq_true] at c1; subst c1; exact R10), r10, ((m_same.z (k := 1) (by omega)).tr s10)⟩
    · have c0 : ¬ ((m_lk P T a) = 43) := of_decide_eq_false c0
      refine px_PW.steps kt_132.2 1 rfl ?_
      refine px_PW.callV kt_132.2 rfl rfl rfl rfl (mk_look h) (by first | omega | (unfold m_dep; omega)) (fun v h1 q => ?_)
      obtain ⟨rfl, rfl⟩ := q
      refine px_PW.steps kt_132.2 2 rfl ?_
      refine px_PW.br (fun c2 => ?_) (fun c2 => ?_)
      · have c2 : ¬ ((m_lk P T a) = 45) := of_decide_eq_false (px_nt c2)
        refine px_PW.steps kt_132.2 1 rfl ?_
        refine px_PW.ret kt_132.2 rfl rfl ?_
        exact ⟨true, a, o, l, Z, F, rfl, rfl, m_R.le (L := 3) (by unfold m_bin; omega) (by unfold m_sg; simp_all), h, m_same.rf⟩
      · have c2 : (m_lk P T a) = 45 := of_decide_eq_true (px_nf c2)
        refine px_PW.steps kt_132.2 1 rfl ?_
        refine px_PW.callV kt_132.2 rfl rfl rfl rfl (mk_look h) (by first | omega | (unfold m_dep; omega)) (fun v h1 q => ?_)
        obtain ⟨rfl, rfl⟩ := q
        refine px_PW.steps kt_132.2 6 rfl ?_
        refine mo_1 kt_132.2 rfl ?_
        have hs : m_sg 3 (m_lk P T a) := by unfold m_sg; simp [c0, c2]
        have hlt : a < P := m_sg_lt hs
        have r12 := h.at1 hlt
        refine px_PW.steps kt_132.2 1 rfl ?_
        refine px_PW.callV kt_132.2 rfl rfl rfl rfl (H _ _ _ _ _ (by omega) r12) (by first | omega | (unfold m_dep; omega)) (fun v h1 q => ?_)
        obtain ⟨b13, a13, o13, l13, Z13, F13, rfl, rfl, R13, r13, s13⟩ := q
        have S13 := R13.S
        refine px_PW.steps kt_132.2 1 rfl ?_
        refine px_PW.br (fun c3 => ?_) (fun c3 => ?_)
        · have c3 : b13 = true := px_b1n (of_decide_eq_false (px_nt c3))
          refine px_PW.steps kt_132.2 3 rfl ?_
          have hl14 : l13.length + 1 ≤ a13 := (by obtain ⟨q1, q2, q3, q4, t, q5, q6, q7⟩ := S13; have := h.2.1.2.2.1; rw [q5, List.length_append]; omega)
          refine px_PW.callV kt_132.2 rfl rfl rfl rfl (mk_step r13 hl14 _ _) (by first | omega | (unfold m_dep; omega)) (fun v h1 q => ?_)
          obtain ⟨rfl, Z14, F14, rfl, r14, s14⟩ := q
          refine px_PW.steps kt_132.2 1 rfl ?_
          have hb13 : b13 = true := c3
          subst hb13
          obtain ⟨q1, q2, q3, q4, t13, q5, q6, q7⟩ := S13
          obtain ⟨e1, e2, e3⟩ := q7 rfl
          have e4 := e3 (by omega)
          obtain rfl : o13 = o := e1
          refine px_PW.imp (m_loop3 ho H (n - 1) a13 ((3, (m_lk P T a)) :: l13) Z14 F14 _ (by omega) (by omega) r14) (fun v h' q => ?_)
          obtain ⟨b9, a9, o9, l9, Z9, F9, rfl, rfl, R9, r9, s9⟩ := q
          exact ⟨b9, a9, o9, l9, Z9, F9, rfl, rfl, m_R.lt (L := 3) (by unfold m_bin; omega) hs R13 R9, r9, (((m_same.z (k := 1) (by omega)).tr s13).tr s14).tr s9⟩
        · have c3 : ¬ (b13 = true) := px_b1z (of_decide_eq_true (px_nf c3))
          refine px_PW.steps kt_132.2 1 rfl ?_
          refine px_PW.ret kt_132.2 rfl rfl ?_
          exact ⟨false, a13, o13, l13, _, _, rfl, rfl, m_R.lf (L := 3) (by unfold m_bin; omega) hs (by simp only [Bool.not_eq_true] at c3; subst c3; exact R13), r13, ((m_same.z (k := 1) (by omega)).tr s13)⟩
theorem mk_lev3 {P : Nat} {T : Nat → Int32} {u : Nat} {Z : Nat → Int32} {F : Nat → Nat → Int32} {a o : Nat} {l : m_L} (H : ∀ (a1 o1 : Nat) (l1 : m_L) (Z1 : Nat → Int32) (F1 : Nat → Nat → Int32), a ≤ a1 → m_ok P T u 133 4 a1 o1 l1 Z1 F1) : m_ok P T u 132 3 a o l Z F := by
  intro h
  have ho : o ≤ 5 := h.2.1.2.1
  rw [show m_dep 3 o = (m_dep 3 o - 1) + 1 by unfold m_dep; omega]
  refine px_PM.start (nL := 2) (code := pc_132) rfl rfl ?_
  refine px_PW.steps kt_132.2 1 rfl ?_
  refine px_PW.callV kt_132.2 rfl rfl rfl rfl (H _ _ _ _ _ (Nat.le_refl a) h) (by first | omega | (unfold m_dep; omega)) (fun v h1 q => ?_)
  obtain ⟨b15, a15, o15, l15, Z15, F15, rfl, rfl, R15, r15, s15⟩ := q
  have S15 := R15.S
  refine px_PW.steps kt_132.2 1 rfl ?_
  refine px_PW.br (fun c0 => ?_) (fun c0 => ?_)
  · have c0 : b15 = true := px_b1n (of_decide_eq_false (px_nt c0))
    have hb : b15 = true := c0
    subst hb
    obtain ⟨q1, q2, q3, q4, t, q5, q6, q7⟩ := S15
    obtain ⟨e1, e2, e3⟩ := q7 rfl
    obtain rfl : o15 = o := e1
    refine px_PW.imp (m_loop3 ho H (P - a15) a15 l15 Z15 F15 _ (Nat.le_refl _) (by omega) r15) (fun v h' q => ?_)
    obtain ⟨b9, a9, o9, l9, Z9, F9, rfl, rfl, R9, r9, s9⟩ := q
    exact ⟨b9, a9, o9, l9, Z9, F9, rfl, rfl, m_R.bt (L := 3) (by unfold m_bin; omega) R15 R9, r9, (m_same.rf.tr s15).tr s9⟩
  · have c0 : ¬ (b15 = true) := px_b1z (of_decide_eq_true (px_nf c0))
    refine px_PW.steps kt_132.2 1 rfl ?_
    refine px_PW.ret kt_132.2 rfl rfl ?_
    simp only [Bool.not_eq_true] at c0
    subst c0
    exact ⟨false, a15, o15, l15, _, _, rfl, rfl, m_R.bf (L := 3) (by unfold m_bin; omega) R15, r15, (m_same.rf.tr s15)⟩
theorem m_loop4 {P : Nat} {T : Nat → Int32} {u : Nat} {a0 o : Nat} (ho : o ≤ 5) (H : ∀ (a1 o1 : Nat) (l1 : m_L) (Z1 : Nat → Int32) (F1 : Nat → Nat → Int32), a0 ≤ a1 → m_ok P T u 135 5 a1 o1 l1 Z1 F1) : ∀ (n a : Nat) (l : m_L) (Z : Nat → Int32) (F : Nat → Nat → Int32) (w1 : Option Value), P - a ≤ n → a0 ≤ a → m_rep P T u Z F a o l → px_PW (m_dep 4 o - 1) pc_133 (m_post P T u (4 + 10) a o l Z F) 9 [some (.ref 1000), w1] [] ([], px_MH Z F)
  | n, a, l, Z, F, w1, hn, h0, h => by
    refine px_PW.steps kt_133.2 1 rfl ?_
    refine px_PW.callV kt_133.2 rfl rfl rfl rfl (mk_look h) (by first | omega | (unfold m_dep; omega)) (fun v h1 q => ?_)
    obtain ⟨rfl, rfl⟩ := q
    refine px_PW.steps kt_133.2 2 rfl ?_
    refine px_PW.br (fun c0 => ?_) (fun c0 => ?_)
    · have c0 : (m_lk P T a) = 42 := of_decide_eq_true c0
      refine px_PW.steps kt_133.2 1 rfl ?_
      refine px_PW.callV kt_133.2 rfl rfl rfl rfl (mk_look h) (by first | omega | (unfold m_dep; omega)) (fun v h1 q => ?_)
      obtain ⟨rfl, rfl⟩ := q
      refine px_PW.steps kt_133.2 6 rfl ?_
      refine mo_1 kt_133.2 rfl ?_
      have hs : m_sg 4 (m_lk P T a) := by unfold m_sg; simp [c0]
      have hlt : a < P := m_sg_lt hs
      have r16 := h.at1 hlt
      refine px_PW.steps kt_133.2 1 rfl ?_
      refine px_PW.callV kt_133.2 rfl rfl rfl rfl (H _ _ _ _ _ (by omega) r16) (by first | omega | (unfold m_dep; omega)) (fun v h1 q => ?_)
      obtain ⟨b17, a17, o17, l17, Z17, F17, rfl, rfl, R17, r17, s17⟩ := q
      have S17 := R17.S
      refine px_PW.steps kt_133.2 1 rfl ?_
      refine px_PW.br (fun c1 => ?_) (fun c1 => ?_)
      · have c1 : b17 = true := px_b1n (of_decide_eq_false (px_nt c1))
        refine px_PW.steps kt_133.2 3 rfl ?_
        have hl18 : l17.length + 1 ≤ a17 := (by obtain ⟨q1, q2, q3, q4, t, q5, q6, q7⟩ := S17; have := h.2.1.2.2.1; rw [q5, List.length_append]; omega)
        refine px_PW.callV kt_133.2 rfl rfl rfl rfl (mk_step r17 hl18 _ _) (by first | omega | (unfold m_dep; omega)) (fun v h1 q => ?_)
        obtain ⟨rfl, Z18, F18, rfl, r18, s18⟩ := q
        refine px_PW.steps kt_133.2 1 rfl ?_
        have hb17 : b17 = true := c1
        subst hb17
        obtain ⟨q1, q2, q3, q4, t17, q5, q6, q7⟩ := S17
        obtain ⟨e1, e2, e3⟩ := q7 rfl
        have e4 := e3 (by omega)
        obtain rfl : o17 = o := e1
        refine px_PW.imp (m_loop4 ho H (n - 1) a17 ((3, (m_lk P T a)) :: l17) Z18 F18 _ (by omega) (by omega) r18) (fun v h' q => ?_)
        obtain ⟨b9, a9, o9, l9, Z9, F9, rfl, rfl, R9, r9, s9⟩ := q
        exact ⟨b9, a9, o9, l9, Z9, F9, rfl, rfl, m_R.lt (L := 4) (by unfold m_bin; omega) hs R17 R9, r9, (((m_same.z (k := 1) (by omega)).tr s17).tr s18).tr s9⟩
      · have c1 : ¬ (b17 = true) := px_b1z (of_decide_eq_true (px_nf c1))
        refine px_PW.steps kt_133.2 1 rfl ?_
        refine px_PW.ret kt_133.2 rfl rfl ?_
        exact ⟨false, a17, o17, l17, _, _, rfl, rfl, m_R.lf (L := 4) (by unfold m_bin; omega) hs (by simp only [Bool.not_eq_true] at c1; subst c1; exact R17), r17, ((m_same.z (k := 1) (by omega)).tr s17)⟩
    · have c0 : ¬ ((m_lk P T a) = 42) := of_decide_eq_false c0
      refine px_PW.steps kt_133.2 1 rfl ?_
      refine px_PW.callV kt_133.2 rfl rfl rfl rfl (mk_look h) (by first | omega | (unfold m_dep; omega)) (fun v h1 q => ?_)
      obtain ⟨rfl, rfl⟩ := q
      refine px_PW.steps kt_133.2 2 rfl ?_
      refine px_PW.br (fun c2 => ?_) (fun c2 => ?_)
      · have c2 : (m_lk P T a) = 47 := of_decide_eq_true c2
        refine px_PW.steps kt_133.2 1 rfl ?_
        refine px_PW.callV kt_133.2 rfl rfl rfl rfl (mk_look h) (by first | omega | (unfold m_dep; omega)) (fun v h1 q => ?_)
        obtain ⟨rfl, rfl⟩ := q
        refine px_PW.steps kt_133.2 6 rfl ?_
        refine mo_1 kt_133.2 rfl ?_
        have hs : m_sg 4 (m_lk P T a) := by unfold m_sg; simp [c0, c2]
        have hlt : a < P := m_sg_lt hs
        have r19 := h.at1 hlt
        refine px_PW.steps kt_133.2 1 rfl ?_
        refine px_PW.callV kt_133.2 rfl rfl rfl rfl (H _ _ _ _ _ (by omega) r19) (by first | omega | (unfold m_dep; omega)) (fun v h1 q => ?_)
        obtain ⟨b20, a20, o20, l20, Z20, F20, rfl, rfl, R20, r20, s20⟩ := q
        have S20 := R20.S
        refine px_PW.steps kt_133.2 1 rfl ?_
        refine px_PW.br (fun c3 => ?_) (fun c3 => ?_)
        · have c3 : b20 = true := px_b1n (of_decide_eq_false (px_nt c3))
          refine px_PW.steps kt_133.2 3 rfl ?_
          have hl21 : l20.length + 1 ≤ a20 := (by obtain ⟨q1, q2, q3, q4, t, q5, q6, q7⟩ := S20; have := h.2.1.2.2.1; rw [q5, List.length_append]; omega)
          refine px_PW.callV kt_133.2 rfl rfl rfl rfl (mk_step r20 hl21 _ _) (by first | omega | (unfold m_dep; omega)) (fun v h1 q => ?_)
          obtain ⟨rfl, Z21, F21, rfl, r21, s21⟩ := q
          refine px_PW.steps kt_133.2 1 rfl ?_
          have hb20 : b20 = true := c3
          subst hb20
          obtain ⟨q1, q2, q3, q4, t20, q5, q6, q7⟩ := S20
          obtain ⟨e1, e2, e3⟩ := q7 rfl
          have e4 := e3 (by omega)
          obtain rfl : o20 = o := e1
          refine px_PW.imp (m_loop4 ho H (n - 1) a20 ((3, (m_lk P T a)) :: l20) Z21 F21 _ (by omega) (by omega) r21) (fun v h' q => ?_)
          obtain ⟨b9, a9, o9, l9, Z9, F9, rfl, rfl, R9, r9, s9⟩ := q
          exact ⟨b9, a9, o9, l9, Z9, F9, rfl, rfl, m_R.lt (L := 4) (by unfold m_bin; omega) hs R20 R9, r9, (((m_same.z (k := 1) (by omega)).tr s20).tr s21).tr s9⟩
        · have c3 : ¬ (b20 = true) := px_b1z (of_decide_eq_true (px_nf c3))
          refine px_PW.steps kt_133.2 1 rfl ?_
          refine px_PW.ret kt_133.2 rfl rfl ?_
          exact ⟨false, a20, o20, l20, _, _, rfl, rfl, m_R.lf (L := 4) (by unfold m_bin; omega) hs (by simp only [Bool.not_eq_true] at c3; subst c3; exact R20), r20, ((m_same.z (k := 1) (by omega)).tr s20)⟩
      · have c2 : ¬ ((m_lk P T a) = 47) := of_decide_eq_false c2
        refine px_PW.steps kt_133.2 1 rfl ?_
        refine px_PW.callV kt_133.2 rfl rfl rfl rfl (mk_look h) (by first | omega | (unfold m_dep; omega)) (fun v h1 q => ?_)
        obtain ⟨rfl, rfl⟩ := q
        refine px_PW.steps kt_133.2 2 rfl ?_
        refine px_PW.br (fun c4 => ?_) (fun c4 => ?_)
        · have c4 : ¬ ((m_lk P T a) = 37) := of_decide_eq_false (px_nt c4)
          refine px_PW.steps kt_133.2 1 rfl ?_
          refine px_PW.ret kt_133.2 rfl rfl ?_
          exact ⟨true, a, o, l, Z, F, rfl, rfl, m_R.le (L := 4) (by unfold m_bin; omega) (by unfold m_sg; simp_all), h, m_same.rf⟩
        · have c4 : (m_lk P T a) = 37 := of_decide_eq_true (px_nf c4)
          refine px_PW.steps kt_133.2 1 rfl ?_
          refine px_PW.callV kt_133.2 rfl rfl rfl rfl (mk_look h) (by first | omega | (unfold m_dep; omega)) (fun v h1 q => ?_)
          obtain ⟨rfl, rfl⟩ := q
          refine px_PW.steps kt_133.2 6 rfl ?_
          refine mo_1 kt_133.2 rfl ?_
          have hs : m_sg 4 (m_lk P T a) := by unfold m_sg; simp [c0, c2, c4]
          have hlt : a < P := m_sg_lt hs
          have r22 := h.at1 hlt
          refine px_PW.steps kt_133.2 1 rfl ?_
          refine px_PW.callV kt_133.2 rfl rfl rfl rfl (H _ _ _ _ _ (by omega) r22) (by first | omega | (unfold m_dep; omega)) (fun v h1 q => ?_)
          obtain ⟨b23, a23, o23, l23, Z23, F23, rfl, rfl, R23, r23, s23⟩ := q
          have S23 := R23.S
          refine px_PW.steps kt_133.2 1 rfl ?_
          refine px_PW.br (fun c5 => ?_) (fun c5 => ?_)
          · have c5 : b23 = true := px_b1n (of_decide_eq_false (px_nt c5))
            refine px_PW.steps kt_133.2 3 rfl ?_
            have hl24 : l23.length + 1 ≤ a23 := (by obtain ⟨q1, q2, q3, q4, t, q5, q6, q7⟩ := S23; have := h.2.1.2.2.1; rw [q5, List.length_append]; omega)
            refine px_PW.callV kt_133.2 rfl rfl rfl rfl (mk_step r23 hl24 _ _) (by first | omega | (unfold m_dep; omega)) (fun v h1 q => ?_)
            obtain ⟨rfl, Z24, F24, rfl, r24, s24⟩ := q
            refine px_PW.steps kt_133.2 1 rfl ?_
            have hb23 : b23 = true := c5
            subst hb23
            obtain ⟨q1, q2, q3, q4, t23, q5, q6, q7⟩ := S23
            obtain ⟨e1, e2, e3⟩ := q7 rfl
            have e4 := e3 (by omega)
            obtain rfl : o23 = o := e1
            refine px_PW.imp (m_loop4 ho H (n - 1) a23 ((3, (m_lk P T a)) :: l23) Z24 F24 _ (by omega) (by omega) r24) (fun v h' q => ?_)
            obtain ⟨b9, a9, o9, l9, Z9, F9, rfl, rfl, R9, r9, s9⟩ := q
            exact ⟨b9, a9, o9, l9, Z9, F9, rfl, rfl, m_R.lt (L := 4) (by unfold m_bin; omega) hs R23 R9, r9, (((m_same.z (k := 1) (by omega)).tr s23).tr s24).tr s9⟩
          · have c5 : ¬ (b23 = true) := px_b1z (of_decide_eq_true (px_nf c5))
            refine px_PW.steps kt_133.2 1 rfl ?_
            refine px_PW.ret kt_133.2 rfl rfl ?_
            exact ⟨false, a23, o23, l23, _, _, rfl, rfl, m_R.lf (L := 4) (by unfold m_bin; omega) hs (by simp only [Bool.not_eq_true] at c5; subst c5; exact R23), r23, ((m_same.z (k := 1) (by omega)).tr s23)⟩
theorem mk_lev4 {P : Nat} {T : Nat → Int32} {u : Nat} {Z : Nat → Int32} {F : Nat → Nat → Int32} {a o : Nat} {l : m_L} (H : ∀ (a1 o1 : Nat) (l1 : m_L) (Z1 : Nat → Int32) (F1 : Nat → Nat → Int32), a ≤ a1 → m_ok P T u 135 5 a1 o1 l1 Z1 F1) : m_ok P T u 133 4 a o l Z F := by
  intro h
  have ho : o ≤ 5 := h.2.1.2.1
  rw [show m_dep 4 o = (m_dep 4 o - 1) + 1 by unfold m_dep; omega]
  refine px_PM.start (nL := 2) (code := pc_133) rfl rfl ?_
  refine px_PW.steps kt_133.2 1 rfl ?_
  refine px_PW.callV kt_133.2 rfl rfl rfl rfl (H _ _ _ _ _ (Nat.le_refl a) h) (by first | omega | (unfold m_dep; omega)) (fun v h1 q => ?_)
  obtain ⟨b25, a25, o25, l25, Z25, F25, rfl, rfl, R25, r25, s25⟩ := q
  have S25 := R25.S
  refine px_PW.steps kt_133.2 1 rfl ?_
  refine px_PW.br (fun c0 => ?_) (fun c0 => ?_)
  · have c0 : b25 = true := px_b1n (of_decide_eq_false (px_nt c0))
    have hb : b25 = true := c0
    subst hb
    obtain ⟨q1, q2, q3, q4, t, q5, q6, q7⟩ := S25
    obtain ⟨e1, e2, e3⟩ := q7 rfl
    obtain rfl : o25 = o := e1
    refine px_PW.imp (m_loop4 ho H (P - a25) a25 l25 Z25 F25 _ (Nat.le_refl _) (by omega) r25) (fun v h' q => ?_)
    obtain ⟨b9, a9, o9, l9, Z9, F9, rfl, rfl, R9, r9, s9⟩ := q
    exact ⟨b9, a9, o9, l9, Z9, F9, rfl, rfl, m_R.bt (L := 4) (by unfold m_bin; omega) R25 R9, r9, (m_same.rf.tr s25).tr s9⟩
  · have c0 : ¬ (b25 = true) := px_b1z (of_decide_eq_true (px_nf c0))
    refine px_PW.steps kt_133.2 1 rfl ?_
    refine px_PW.ret kt_133.2 rfl rfl ?_
    simp only [Bool.not_eq_true] at c0
    subst c0
    exact ⟨false, a25, o25, l25, _, _, rfl, rfl, m_R.bf (L := 4) (by unfold m_bin; omega) R25, r25, (m_same.rf.tr s25)⟩
theorem mk_lev2 {P : Nat} {T : Nat → Int32} {u : Nat} {Z : Nat → Int32} {F : Nat → Nat → Int32} {a o : Nat} {l : m_L} (H : ∀ (a1 o1 : Nat) (l1 : m_L) (Z1 : Nat → Int32) (F1 : Nat → Nat → Int32), a ≤ a1 → m_ok P T u 132 3 a1 o1 l1 Z1 F1) : m_ok P T u 131 2 a o l Z F := by
  intro h
  have ho : o ≤ 5 := h.2.1.2.1
  rw [show m_dep 2 o = (m_dep 2 o - 1) + 1 by unfold m_dep; omega]
  refine px_PM.start (nL := 2) (code := pc_131) rfl rfl ?_
  refine px_PW.steps kt_131.2 1 rfl ?_
  refine px_PW.callV kt_131.2 rfl rfl rfl rfl (H _ _ _ _ _ (Nat.le_refl a) h) (by first | omega | (unfold m_dep; omega)) (fun v h1 q => ?_)
  obtain ⟨b26, a26, o26, l26, Z26, F26, rfl, rfl, R26, r26, s26⟩ := q
  have S26 := R26.S
  refine px_PW.steps kt_131.2 1 rfl ?_
  refine px_PW.br (fun c0 => ?_) (fun c0 => ?_)
  · have c0 : b26 = true := px_b1n (of_decide_eq_false (px_nt c0))
    refine px_PW.steps kt_131.2 1 rfl ?_
    refine px_PW.callV kt_131.2 rfl rfl rfl rfl (mk_look r26) (by first | omega | (unfold m_dep; omega)) (fun v h1 q => ?_)
    obtain ⟨rfl, rfl⟩ := q
    refine px_PW.steps kt_131.2 4 rfl ?_
    refine px_PW.br (fun c1 => ?_) (fun c1 => ?_)
    · have c1 : (m_lk P T a26) = 60 := of_decide_eq_true c1
      refine px_PW.steps kt_131.2 5 rfl ?_
      refine mo_1 kt_131.2 rfl ?_
      have hb : b26 = true := c0
      subst hb
      have hs : m_cp (m_lk P T a26) := by unfold m_cp; simp [c1]
      have hlt : a26 < P := m_cp_lt hs
      have r27 := r26.at1 hlt
      obtain ⟨q1, q2, q3, q4, t, q5, q6, q7⟩ := S26
      obtain ⟨e1, e2, e3⟩ := q7 rfl
      obtain rfl : o26 = o := e1
      refine px_PW.steps kt_131.2 1 rfl ?_
      refine px_PW.callV kt_131.2 rfl rfl rfl rfl (H _ _ _ _ _ (by omega) r27) (by first | omega | (unfold m_dep; omega)) (fun v h1 q => ?_)
      obtain ⟨b28, a28, o28, l28, Z28, F28, rfl, rfl, R28, r28, s28⟩ := q
      have S28 := R28.S
      refine px_PW.steps kt_131.2 1 rfl ?_
      refine px_PW.br (fun c2 => ?_) (fun c2 => ?_)
      · have c2 : b28 = true := px_b1n (of_decide_eq_false (px_nt c2))
        refine px_PW.steps kt_131.2 3 rfl ?_
        have hl29 : l28.length + 1 ≤ a28 := (by obtain ⟨p1, p2, p3, p4, t2, p5, p6, p7⟩ := S28; have := h.2.1.2.2.1; rw [p5, q5, List.length_append, List.length_append]; omega)
        refine px_PW.callV kt_131.2 rfl rfl rfl rfl (mk_step r28 hl29 _ _) (by first | omega | (unfold m_dep; omega)) (fun v h1 q => ?_)
        obtain ⟨rfl, Z29, F29, rfl, r29, s29⟩ := q
        refine px_PW.steps kt_131.2 1 rfl ?_
        refine px_PW.ret kt_131.2 rfl rfl ?_
        have hb2 : b28 = true := c2
        subst hb2
        exact ⟨true, _, _, _, _, _, rfl, rfl, m_R.c2t R26 hs R28, r29, ((((m_same.rf.tr s26).tr (m_same.z (k := 1) (by omega))).tr s28).tr s29)⟩
      · have c2 : ¬ (b28 = true) := px_b1z (of_decide_eq_true (px_nf c2))
        refine px_PW.steps kt_131.2 1 rfl ?_
        refine px_PW.ret kt_131.2 rfl rfl ?_
        simp only [Bool.not_eq_true] at c2
        subst c2
        exact ⟨false, _, _, _, _, _, rfl, rfl, m_R.c2f R26 hs R28, r28, (((m_same.rf.tr s26).tr (m_same.z (k := 1) (by omega))).tr s28)⟩
    · have c1 : ¬ ((m_lk P T a26) = 60) := of_decide_eq_false c1
      refine px_PW.steps kt_131.2 3 rfl ?_
      refine px_PW.br (fun c3 => ?_) (fun c3 => ?_)
      · have c3 : (m_lk P T a26) = 61 := of_decide_eq_true c3
        refine px_PW.steps kt_131.2 5 rfl ?_
        refine mo_1 kt_131.2 rfl ?_
        have hb : b26 = true := c0
        subst hb
        have hs : m_cp (m_lk P T a26) := by unfold m_cp; simp [c1, c3]
        have hlt : a26 < P := m_cp_lt hs
        have r30 := r26.at1 hlt
        obtain ⟨q1, q2, q3, q4, t, q5, q6, q7⟩ := S26
        obtain ⟨e1, e2, e3⟩ := q7 rfl
        obtain rfl : o26 = o := e1
        refine px_PW.steps kt_131.2 1 rfl ?_
        refine px_PW.callV kt_131.2 rfl rfl rfl rfl (H _ _ _ _ _ (by omega) r30) (by first | omega | (unfold m_dep; omega)) (fun v h1 q => ?_)
        obtain ⟨b31, a31, o31, l31, Z31, F31, rfl, rfl, R31, r31, s31⟩ := q
        have S31 := R31.S
        refine px_PW.steps kt_131.2 1 rfl ?_
        refine px_PW.br (fun c4 => ?_) (fun c4 => ?_)
        · have c4 : b31 = true := px_b1n (of_decide_eq_false (px_nt c4))
          refine px_PW.steps kt_131.2 3 rfl ?_
          have hl32 : l31.length + 1 ≤ a31 := (by obtain ⟨p1, p2, p3, p4, t2, p5, p6, p7⟩ := S31; have := h.2.1.2.2.1; rw [p5, q5, List.length_append, List.length_append]; omega)
          refine px_PW.callV kt_131.2 rfl rfl rfl rfl (mk_step r31 hl32 _ _) (by first | omega | (unfold m_dep; omega)) (fun v h1 q => ?_)
          obtain ⟨rfl, Z32, F32, rfl, r32, s32⟩ := q
          refine px_PW.steps kt_131.2 1 rfl ?_
          refine px_PW.ret kt_131.2 rfl rfl ?_
          have hb2 : b31 = true := c4
          subst hb2
          exact ⟨true, _, _, _, _, _, rfl, rfl, m_R.c2t R26 hs R31, r32, ((((m_same.rf.tr s26).tr (m_same.z (k := 1) (by omega))).tr s31).tr s32)⟩
        · have c4 : ¬ (b31 = true) := px_b1z (of_decide_eq_true (px_nf c4))
          refine px_PW.steps kt_131.2 1 rfl ?_
          refine px_PW.ret kt_131.2 rfl rfl ?_
          simp only [Bool.not_eq_true] at c4
          subst c4
          exact ⟨false, _, _, _, _, _, rfl, rfl, m_R.c2f R26 hs R31, r31, (((m_same.rf.tr s26).tr (m_same.z (k := 1) (by omega))).tr s31)⟩
      · have c3 : ¬ ((m_lk P T a26) = 61) := of_decide_eq_false c3
        refine px_PW.steps kt_131.2 3 rfl ?_
        refine px_PW.br (fun c5 => ?_) (fun c5 => ?_)
        · have c5 : (m_lk P T a26) = 62 := of_decide_eq_true c5
          refine px_PW.steps kt_131.2 5 rfl ?_
          refine mo_1 kt_131.2 rfl ?_
          have hb : b26 = true := c0
          subst hb
          have hs : m_cp (m_lk P T a26) := by unfold m_cp; simp [c1, c3, c5]
          have hlt : a26 < P := m_cp_lt hs
          have r33 := r26.at1 hlt
          obtain ⟨q1, q2, q3, q4, t, q5, q6, q7⟩ := S26
          obtain ⟨e1, e2, e3⟩ := q7 rfl
          obtain rfl : o26 = o := e1
          refine px_PW.steps kt_131.2 1 rfl ?_
          refine px_PW.callV kt_131.2 rfl rfl rfl rfl (H _ _ _ _ _ (by omega) r33) (by first | omega | (unfold m_dep; omega)) (fun v h1 q => ?_)
          obtain ⟨b34, a34, o34, l34, Z34, F34, rfl, rfl, R34, r34, s34⟩ := q
          have S34 := R34.S
          refine px_PW.steps kt_131.2 1 rfl ?_
          refine px_PW.br (fun c6 => ?_) (fun c6 => ?_)
          · have c6 : b34 = true := px_b1n (of_decide_eq_false (px_nt c6))
            refine px_PW.steps kt_131.2 3 rfl ?_
            have hl35 : l34.length + 1 ≤ a34 := (by obtain ⟨p1, p2, p3, p4, t2, p5, p6, p7⟩ := S34; have := h.2.1.2.2.1; rw [p5, q5, List.length_append, List.length_append]; omega)
            refine px_PW.callV kt_131.2 rfl rfl rfl rfl (mk_step r34 hl35 _ _) (by first | omega | (unfold m_dep; omega)) (fun v h1 q => ?_)
            obtain ⟨rfl, Z35, F35, rfl, r35, s35⟩ := q
            refine px_PW.steps kt_131.2 1 rfl ?_
            refine px_PW.ret kt_131.2 rfl rfl ?_
            have hb2 : b34 = true := c6
            subst hb2
            exact ⟨true, _, _, _, _, _, rfl, rfl, m_R.c2t R26 hs R34, r35, ((((m_same.rf.tr s26).tr (m_same.z (k := 1) (by omega))).tr s34).tr s35)⟩
          · have c6 : ¬ (b34 = true) := px_b1z (of_decide_eq_true (px_nf c6))
            refine px_PW.steps kt_131.2 1 rfl ?_
            refine px_PW.ret kt_131.2 rfl rfl ?_
            simp only [Bool.not_eq_true] at c6
            subst c6
            exact ⟨false, _, _, _, _, _, rfl, rfl, m_R.c2f R26 hs R34, r34, (((m_same.rf.tr s26).tr (m_same.z (k := 1) (by omega))).tr s34)⟩
        · have c5 : ¬ ((m_lk P T a26) = 62) := of_decide_eq_false c5
          refine px_PW.steps kt_131.2 1 rfl ?_
          refine px_PW.ret kt_131.2 rfl rfl ?_
          have hb : b26 = true := c0
          subst hb
          exact ⟨true, _, _, _, _, _, rfl, rfl, m_R.c1 R26 (by unfold m_cp; simp [c1, c3, c5]), r26, (m_same.rf.tr s26)⟩
  · have c0 : ¬ (b26 = true) := px_b1z (of_decide_eq_true (px_nf c0))
    refine px_PW.steps kt_131.2 1 rfl ?_
    refine px_PW.ret kt_131.2 rfl rfl ?_
    simp only [Bool.not_eq_true] at c0
    subst c0
    exact ⟨false, _, _, _, _, _, rfl, rfl, m_R.cf R26, r26, (m_same.rf.tr s26)⟩
theorem m_dig_loop {P : Nat} {T : Nat → Int32} {u : Nat} {o : Nat} {l : m_L} {d : Nat} {cc : Int32} {Q : Option Value → px_H → Prop} (hd : 1 ≤ d) : ∀ (m k a : Nat) (v : Int32) (Z : Nat → Int32) (F : Nat → Nat → Int32), k + m = 4 → m_rep P T u Z F a o l → (∀ (Z' : Nat → Int32) (w3 : Option Value), m_rep P T u Z' F (m_dig P T m a v).2 o l → m_same Z F Z' F → px_PW d pc_135 Q 94 [some (.ref 1000), some (.int cc), some (.int (m_dig P T m a v).1), w3] [] ([], px_MH Z' F)) → px_PW d pc_135 Q 46 [some (.ref 1000), some (.int cc), some (.int v), some (.int (nI k))] [] ([], px_MH Z F)
  | m, k, a, v, Z, F, hk, h, H => by
    refine px_PW.steps kt_135.2 3 rfl ?_
    refine px_PW.br (fun c0 => ?_) (fun c0 => ?_)
    · have c0 : 4 ≤ (nI k) := of_decide_eq_true c0
      have c0 : 4 ≤ k := (nI_leI (a := 4) (b := k) (by omega) (by omega)).mp c0
      obtain rfl : m = 0 := by omega
      exact H Z _ h m_same.rf
    · have c0 : ¬ (4 ≤ (nI k)) := of_decide_eq_false c0
      have c0 : ¬ (4 ≤ k) := fun q => c0 ((nI_leI (a := 4) (b := k) (by omega) (by omega)).mpr q)
      obtain ⟨m2, rfl⟩ : ∃ m2, m = m2 + 1 := ⟨m - 1, by omega⟩
      refine px_PW.steps kt_135.2 1 rfl ?_
      refine px_PW.callV kt_135.2 rfl rfl rfl rfl (mk_look h) (by first | omega | (unfold m_dep; omega)) (fun v h1 q => ?_)
      obtain ⟨rfl, rfl⟩ := q
      refine px_PW.steps kt_135.2 2 rfl ?_
      refine px_PW.callS kt_135.2 rfl rfl rfl (cm_117 _ _ _ _) (by first | omega | (unfold m_dep; omega)) (fun v h1 q => ?_)
      obtain ⟨rfl, rfl⟩ := q
      refine px_PW.steps kt_135.2 1 rfl ?_
      refine px_PW.br (fun c1 => ?_) (fun c1 => ?_)
      · have c1 : ¬ (48 ≤ (m_lk P T a) ∧ (m_lk P T a) ≤ 57) := px_b1z (of_decide_eq_true c1)
        have e0 : m_dig P T (m2 + 1) a v = (v, a) := if_neg c1
        rw [e0] at H
        exact H Z _ h m_same.rf
      · have c1 : 48 ≤ (m_lk P T a) ∧ (m_lk P T a) ≤ 57 := px_b1n (of_decide_eq_false c1)
        have e0 : m_dig P T (m2 + 1) a v = m_dig P T m2 (a + 1) (10 * v + m_lk P T a - 48) := if_pos c1
        refine px_PW.steps kt_135.2 4 rfl ?_
        refine px_PW.callV kt_135.2 rfl rfl rfl rfl (mk_look h) (by first | omega | (unfold m_dep; omega)) (fun v h1 q => ?_)
        obtain ⟨rfl, rfl⟩ := q
        refine px_PW.steps kt_135.2 9 rfl ?_
        refine mo_1 kt_135.2 rfl ?_
        refine px_PW.steps kt_135.2 2 rfl ?_
        rw [e0] at H
        have g := m_dig_loop (cc := cc) (Q := Q) hd m2 (k + 1) (a + 1) (10 * v + m_lk P T a - 48) (upd Z 1 (Z 1 + 1)) F (by omega) (h.at1 (m_dg_lt c1)) (fun Z9 w3 r9 s9 => H Z9 w3 r9 ((m_same.z (k := 1) (by omega)).tr s9))
        rw [nI_succ k] at g
        exact g
theorem mk_lev5 {P : Nat} {T : Nat → Int32} {u : Nat} {Z : Nat → Int32} {F : Nat → Nat → Int32} {a o : Nat} {l : m_L} (H5 : ∀ (a1 o1 : Nat) (l1 : m_L) (Z1 : Nat → Int32) (F1 : Nat → Nat → Int32), a < a1 → m_ok P T u 135 5 a1 o1 l1 Z1 F1) (H0 : ∀ (a1 o1 : Nat) (l1 : m_L) (Z1 : Nat → Int32) (F1 : Nat → Nat → Int32), a < a1 → m_ok P T u 129 0 a1 o1 l1 Z1 F1) : m_ok P T u 135 5 a o l Z F := by
  intro h
  have ho : o ≤ 5 := h.2.1.2.1
  rw [show m_dep 5 o = (m_dep 5 o - 1) + 1 by unfold m_dep; omega]
  refine px_PM.start (nL := 4) (code := pc_135) rfl rfl ?_
  refine px_PW.steps kt_135.2 1 rfl ?_
  refine px_PW.callV kt_135.2 rfl rfl rfl rfl (mk_look h) (by first | omega | (unfold m_dep; omega)) (fun v h1 q => ?_)
  obtain ⟨rfl, rfl⟩ := q
  refine px_PW.steps kt_135.2 3 rfl ?_
  refine px_PW.callV kt_135.2 rfl rfl rfl rfl (mk_name h _) (by first | omega | (unfold m_dep; omega)) (fun v h1 q => ?_)
  obtain ⟨rfl, rfl⟩ := q
  refine px_PW.steps kt_135.2 1 rfl ?_
  refine px_PW.br (fun c0 => ?_) (fun c0 => ?_)
  · have c0 : ¬ (m_nm u (m_lk P T a)) := px_b1z (of_decide_eq_true c0)
    refine px_PW.steps kt_135.2 3 rfl ?_
    refine px_PW.callS kt_135.2 rfl rfl rfl (cm_117 _ _ _ _) (by first | omega | (unfold m_dep; omega)) (fun v h1 q => ?_)
    obtain ⟨rfl, rfl⟩ := q
    refine px_PW.steps kt_135.2 1 rfl ?_
    refine px_PW.br (fun c1 => ?_) (fun c1 => ?_)
    · have c1 : ¬ (48 ≤ (m_lk P T a) ∧ (m_lk P T a) ≤ 57) := px_b1z (of_decide_eq_true c1)
      refine px_PW.steps kt_135.2 3 rfl ?_
      refine px_PW.br (fun c2 => ?_) (fun c2 => ?_)
      · have c2 : ¬ ((m_lk P T a) = 33) := of_decide_eq_false (px_nt c2)
        refine px_PW.steps kt_135.2 3 rfl ?_
        refine px_PW.br (fun c3 => ?_) (fun c3 => ?_)
        · have c3 : ¬ ((m_lk P T a) = 40) := of_decide_eq_false (px_nt c3)
          refine px_PW.steps kt_135.2 1 rfl ?_
          refine px_PW.ret kt_135.2 rfl rfl ?_
          exact ⟨false, _, _, _, _, _, rfl, rfl, m_R.el c0 c1 c2 c3, h, m_same.rf⟩
        · have c3 : (m_lk P T a) = 40 := of_decide_eq_true (px_nf c3)
          refine px_PW.steps kt_135.2 1 rfl ?_
          refine px_PW.callV kt_135.2 rfl rfl rfl rfl (mk_opens h (m_lk_is c3 (by decide))) (by first | omega | (unfold m_dep; omega)) (fun v h1 q => ?_)
          obtain ⟨rfl, Z36, F36, rfl, q36, p36, s36⟩ := q
          refine px_PW.steps kt_135.2 1 rfl ?_
          refine px_PW.br (fun c4 => ?_) (fun c4 => ?_)
          · have c4 : ¬ (o < 5) := px_b1z (of_decide_eq_true c4)
            have r37 := p36 c4
            refine px_PW.steps kt_135.2 1 rfl ?_
            refine px_PW.ret kt_135.2 rfl rfl ?_
            exact ⟨false, _, _, _, _, _, rfl, rfl, m_R.po c3 c4, r37, (m_same.rf.tr s36)⟩
          · have c4 : o < 5 := px_b1n (of_decide_eq_false c4)
            have r38 := q36 c4
            refine px_PW.steps kt_135.2 1 rfl ?_
            refine px_PW.callV kt_135.2 rfl rfl rfl rfl (H0 _ _ _ _ _ (by omega) r38) (by first | omega | (unfold m_dep; omega)) (fun v h1 q => ?_)
            obtain ⟨b39, a39, o39, l39, Z39, F39, rfl, rfl, R39, r39, s39⟩ := q
            have S39 := R39.S
            refine px_PW.steps kt_135.2 1 rfl ?_
            refine px_PW.br (fun c5 => ?_) (fun c5 => ?_)
            · have c5 : ¬ (b39 = true) := px_b1z (of_decide_eq_true c5)
              refine px_PW.steps kt_135.2 1 rfl ?_
              refine px_PW.ret kt_135.2 rfl rfl ?_
              simp only [Bool.not_eq_true] at c5
              subst c5
              exact ⟨false, _, _, _, _, _, rfl, rfl, m_R.pf c3 c4 R39, r39, ((m_same.rf.tr s36).tr s39)⟩
            · have c5 : b39 = true := px_b1n (of_decide_eq_false c5)
              refine px_PW.steps kt_135.2 1 rfl ?_
              refine px_PW.callV kt_135.2 rfl rfl rfl rfl (mk_look r39) (by first | omega | (unfold m_dep; omega)) (fun v h1 q => ?_)
              obtain ⟨rfl, rfl⟩ := q
              refine px_PW.steps kt_135.2 2 rfl ?_
              refine px_PW.br (fun c6 => ?_) (fun c6 => ?_)
              · have c6 : (m_lk P T a39) = 41 := of_decide_eq_true c6
                refine px_PW.steps kt_135.2 5 rfl ?_
                refine mo_1 kt_135.2 rfl ?_
                have hb : b39 = true := c5
                subst hb
                obtain ⟨q1, q2, q3, q4, t, q5, q6, q7⟩ := S39
                obtain ⟨e1, e2, e3⟩ := q7 rfl
                have r40 := r39.at1 (m_lk_is c6 (by decide))
                refine px_PW.steps kt_135.2 5 rfl ?_
                refine mo_2 kt_135.2 rfl ?_
                have r41 := r40.opm (by omega)
                refine px_PW.steps kt_135.2 1 rfl ?_
                refine px_PW.ret kt_135.2 rfl rfl ?_
                exact ⟨true, _, _, _, _, _, rfl, rfl, m_R.pt c3 c4 R39 c6, r41, ((((m_same.rf.tr s36).tr s39).tr (m_same.z (k := 1) (by omega))).tr (m_same.z (k := 2) (by omega)))⟩
              · have c6 : ¬ ((m_lk P T a39) = 41) := of_decide_eq_false c6
                refine px_PW.steps kt_135.2 1 rfl ?_
                refine px_PW.ret kt_135.2 rfl rfl ?_
                have hb : b39 = true := c5
                subst hb
                exact ⟨false, _, _, _, _, _, rfl, rfl, m_R.pn c3 c4 R39 c6, r39, ((m_same.rf.tr s36).tr s39)⟩
      · have c2 : (m_lk P T a) = 33 := of_decide_eq_true (px_nf c2)
        refine px_PW.steps kt_135.2 1 rfl ?_
        refine px_PW.callV kt_135.2 rfl rfl rfl rfl (mk_opens h (m_lk_is c2 (by decide))) (by first | omega | (unfold m_dep; omega)) (fun v h1 q => ?_)
        obtain ⟨rfl, Z42, F42, rfl, q42, p42, s42⟩ := q
        refine px_PW.steps kt_135.2 1 rfl ?_
        refine px_PW.br (fun c7 => ?_) (fun c7 => ?_)
        · have c7 : ¬ (o < 5) := px_b1z (of_decide_eq_true c7)
          have r43 := p42 c7
          refine px_PW.steps kt_135.2 1 rfl ?_
          refine px_PW.ret kt_135.2 rfl rfl ?_
          exact ⟨false, _, _, _, _, _, rfl, rfl, m_R.no c2 c7, r43, (m_same.rf.tr s42)⟩
        · have c7 : o < 5 := px_b1n (of_decide_eq_false c7)
          have r44 := q42 c7
          refine px_PW.steps kt_135.2 1 rfl ?_
          refine px_PW.callV kt_135.2 rfl rfl rfl rfl (H5 _ _ _ _ _ (by omega) r44) (by first | omega | (unfold m_dep; omega)) (fun v h1 q => ?_)
          obtain ⟨b45, a45, o45, l45, Z45, F45, rfl, rfl, R45, r45, s45⟩ := q
          have S45 := R45.S
          refine px_PW.steps kt_135.2 1 rfl ?_
          refine px_PW.br (fun c8 => ?_) (fun c8 => ?_)
          · have c8 : b45 = true := px_b1n (of_decide_eq_false (px_nt c8))
            refine px_PW.steps kt_135.2 5 rfl ?_
            refine mo_2 kt_135.2 rfl ?_
            have hb : b45 = true := c8
            subst hb
            obtain ⟨q1, q2, q3, q4, t, q5, q6, q7⟩ := S45
            obtain ⟨e1, e2, e3⟩ := q7 rfl
            have r46 := r45.opm (by omega)
            refine px_PW.steps kt_135.2 3 rfl ?_
            have hl47 : l45.length + 1 ≤ a45 := (by have := h.2.1.2.2.1; rw [q5, List.length_append]; omega)
            refine px_PW.callV kt_135.2 rfl rfl rfl rfl (mk_step r46 hl47 _ _) (by first | omega | (unfold m_dep; omega)) (fun v h1 q => ?_)
            obtain ⟨rfl, Z47, F47, rfl, r47, s47⟩ := q
            refine px_PW.steps kt_135.2 1 rfl ?_
            refine px_PW.ret kt_135.2 rfl rfl ?_
            exact ⟨true, _, _, _, _, _, rfl, rfl, m_R.nt c2 c7 R45, r47, ((((m_same.rf.tr s42).tr s45).tr (m_same.z (k := 2) (by omega))).tr s47)⟩
          · have c8 : ¬ (b45 = true) := px_b1z (of_decide_eq_true (px_nf c8))
            refine px_PW.steps kt_135.2 1 rfl ?_
            refine px_PW.ret kt_135.2 rfl rfl ?_
            simp only [Bool.not_eq_true] at c8
            subst c8
            exact ⟨false, _, _, _, _, _, rfl, rfl, m_R.nf c2 c7 R45, r45, ((m_same.rf.tr s42).tr s45)⟩
    · have c1 : 48 ≤ (m_lk P T a) ∧ (m_lk P T a) ≤ 57 := px_b1n (of_decide_eq_false c1)
      refine px_PW.steps kt_135.2 4 rfl ?_
      refine m_dig_loop (by unfold m_dep; omega) 4 0 a 0 Z F rfl h (fun Z48 w3 r48 s48 => ?_)
      refine px_PW.steps kt_135.2 3 rfl ?_
      have hl49 : l.length + 1 ≤ (m_dig P T 4 a 0).2 := (by have g1 := m_dig_lt (n := 3) (v := 0) c1; have := h.2.1.2.2.1; exact Nat.le_trans (by omega) g1)
      refine px_PW.callV kt_135.2 rfl rfl rfl rfl (mk_step r48 hl49 _ _) (by first | omega | (unfold m_dep; omega)) (fun v h1 q => ?_)
      obtain ⟨rfl, Z49, F49, rfl, r49, s49⟩ := q
      refine px_PW.steps kt_135.2 1 rfl ?_
      refine px_PW.ret kt_135.2 rfl rfl ?_
      exact ⟨true, _, _, _, _, _, rfl, rfl, m_R.num c0 c1, r49, (s48.tr s49)⟩
  · have c0 : m_nm u (m_lk P T a) := px_b1n (of_decide_eq_false c0)
    refine px_PW.steps kt_135.2 5 rfl ?_
    refine mo_1 kt_135.2 rfl ?_
    have r50 := h.at1 (m_nm_lt c0)
    refine px_PW.steps kt_135.2 3 rfl ?_
    have hl51 : l.length + 1 ≤ (a + 1) := (by have := h.2.1.2.2.1; omega)
    refine px_PW.callV kt_135.2 rfl rfl rfl rfl (mk_step r50 hl51 _ _) (by first | omega | (unfold m_dep; omega)) (fun v h1 q => ?_)
    obtain ⟨rfl, Z51, F51, rfl, r51, s51⟩ := q
    refine px_PW.steps kt_135.2 1 rfl ?_
    refine px_PW.ret kt_135.2 rfl rfl ?_
    exact ⟨true, _, _, _, _, _, rfl, rfl, m_R.nam c0, r51, ((m_same.z (k := 1) (by omega)).tr s51)⟩
/-- every level, by how much is left -/
theorem mk_all {P : Nat} {T : Nat → Int32} {u : Nat} : ∀ (n a o : Nat) (l : m_L) (Z : Nat → Int32) (F : Nat → Nat → Int32), ((P - a) * 7 + 6 ≤ n → m_ok P T u 129 0 a o l Z F) ∧ ((P - a) * 7 + 5 ≤ n → m_ok P T u 130 1 a o l Z F) ∧ ((P - a) * 7 + 4 ≤ n → m_ok P T u 131 2 a o l Z F) ∧ ((P - a) * 7 + 3 ≤ n → m_ok P T u 132 3 a o l Z F) ∧ ((P - a) * 7 + 2 ≤ n → m_ok P T u 133 4 a o l Z F) ∧ ((P - a) * 7 + 1 ≤ n → m_ok P T u 135 5 a o l Z F)
  | 0, a, o, l, Z, F => ⟨fun q => by omega, fun q => by omega, fun q => by omega, fun q => by omega, fun q => by omega, fun q => by omega⟩
  | n + 1, a, o, l, Z, F => by
    have ih := fun a o l Z F => mk_all (P := P) (T := T) (u := u) n a o l Z F
    refine ⟨fun q => mk_lev0 (fun a1 o1 l1 Z1 F1 h => (ih a1 o1 l1 Z1 F1).2.1 (by omega)), fun q => mk_lev1 (fun a1 o1 l1 Z1 F1 h => (ih a1 o1 l1 Z1 F1).2.2.1 (by omega)), fun q => mk_lev2 (fun a1 o1 l1 Z1 F1 h => (ih a1 o1 l1 Z1 F1).2.2.2.1 (by omega)), fun q => mk_lev3 (fun a1 o1 l1 Z1 F1 h => (ih a1 o1 l1 Z1 F1).2.2.2.2.1 (by omega)), fun q => mk_lev4 (fun a1 o1 l1 Z1 F1 h => (ih a1 o1 l1 Z1 F1).2.2.2.2.2 (by omega)), fun q => ?_⟩
    rcases Nat.lt_or_ge a P with ha | ha
    · exact mk_lev5 (fun a1 o1 l1 Z1 F1 h => (ih a1 o1 l1 Z1 F1).2.2.2.2.2 (by omega)) (fun a1 o1 l1 Z1 F1 h => (ih a1 o1 l1 Z1 F1).1 (by omega))
    · exact mk_lev5 (fun a1 o1 l1 Z1 F1 h r => absurd r.2.1.1 (by omega)) (fun a1 o1 l1 Z1 F1 h r => absurd r.2.1.1 (by omega))
theorem mk_whole {P : Nat} {T : Nat → Int32} {u a o : Nat} {l : m_L} {Z : Nat → Int32} {F : Nat → Nat → Int32} : m_ok P T u 129 0 a o l Z F := (mk_all ((P - a) * 7 + 6) a o l Z F).1 (Nat.le_refl _)
end
