/-! answers equal, of calls kept safe in 57 -/
theorem zz_held {q T : Int32} : (if q < 1 then T else (if q ≤ T then q else T)) = if 1 ≤ q ∧ q ≤ T then q else T := by
  by_cases c : q < 1
  · rw [if_pos c, if_neg (fun w => Int32.not_lt.mpr w.1 c)]
  · rw [if_neg c]
    by_cases c2 : q ≤ T
    · rw [if_pos c2, if_pos ⟨Int32.not_lt.mp c, c2⟩]
    · rw [if_neg c2, if_neg (fun w => c2 w.2)]
theorem zz_01 {w e x : Int32} : (if w < 0 then e else (if w ≤ 1 then x else e)) = if 0 ≤ w ∧ w ≤ 1 then x else e := by
  by_cases c : w < 0
  · rw [if_pos c, if_neg (fun q => Int32.not_lt.mpr q.1 c)]
  · rw [if_neg c]
    by_cases c2 : w ≤ 1
    · rw [if_pos c2, if_pos ⟨Int32.not_lt.mp c, c2⟩]
    · rw [if_neg c2, if_neg (fun q => c2 q.2)]
theorem st_middleT (what : Int32) : px_st 70 179 [.int what] True := by
  intro Z N F Zm G h
  obtain ⟨⟨hT, hT1, hT2⟩, ⟨hJ, hJ9⟩, hR, hR1, hR8⟩ := g_TJR h.wall
  have hb : ¬ (G 0 1 + G 0 2 = 0) := fun q => by
    rw [hT, hJ] at q
    have e := zz_add (a := fT (G 0)) (b := fJ (G 0)) (nI_toInt (by omega)) (nI_toInt (by omega)) (by omega) (by omega)
    rw [q, show (0 : Int32).toInt = 0 from rfl] at e
    omega
  refine px_st_of (kc_middle h.1 what) (by decide) (kc_mmiddle hb what) (by decide) h (fun _ => ?_)
  unfold s_middle s_mmiddle
  rw [h.F0 (i := 0) (by decide), h.F0 (i := 1) (by decide), h.F0 (i := 2) (by decide)]
  have er : ∀ a : Int32, i_rem a (G 0 1 + G 0 2) = a - a / (G 0 1 + G 0 2) * (G 0 1 + G 0 2) := fun a => if_neg hb
  rw [er, er, zz_held, zz_held, zz_01]
theorem zz_addN {a b : Nat} (h : a + b < 100000) : nI a + nI b = nI (a + b) := by
  apply Int32.toInt_inj.mp
  rw [zz_add (nI_toInt (n := a) (by omega)) (nI_toInt (n := b) (by omega)) (by omega) (by omega), nI_toInt (by omega)]
  omega
theorem zz_find_cg {p q : Nat → Bool} : ∀ (m k : Nat), (∀ j : Nat, k ≤ j → j < k + m → p j = q j) → zz_find p m k = zz_find q m k
  | 0, _, _ => rfl
  | m + 1, k, h => by
      unfold zz_find
      rw [h k (by omega) (by omega), zz_find_cg m (k + 1) (fun j h1 h2 => h j (by omega) (by omega))]
theorem zz_find_in {p : Nat → Bool} : ∀ (m k j : Nat), zz_find p m k = some j → j < k + m
  | 0, _, _, h => by cases h
  | m + 1, k, j, h => by
      unfold zz_find at h
      split at h
      · cases h; omega
      · have := zz_find_in m (k + 1) j h; omega
theorem st_cheatT (what : Int32) : px_st 69 178 [.int what] True := by
  intro Z N F Zm G h
  obtain ⟨⟨hT, hT1, hT2⟩, hJ, hR, hR1, hR8⟩ := g_TJR h.wall
  have hL : ∃ L : Nat, L ≤ 4000 ∧ G 0 0 = nI L := by
    obtain ⟨L, T, J, R, B, S, h0, h1', h2', h4, h5, h6, a1, a2, a3, a4, a5, a6, a7, a8, a9, a10, k1, k2⟩ := h.wall
    exact ⟨L, by omega, h0⟩
  obtain ⟨L, l1, l2⟩ := hL
  refine px_st_of (kc_cheat h.1 what) (by decide) (kc_mcheat hT l2 (by omega) hT2 l1 what) (by decide) h (fun _ => ?_)
  have f0 : F 0 0 = nI L := (h.F0 (by decide)).trans l2
  have f1 : F 0 1 = nI (fT (G 0)) := (h.F0 (by decide)).trans hT
  have ef : zz_find (s_chp F) 10 0 = zz_find (s_mchp L (fT (G 0))) 10 0 := by
    refine zz_find_cg _ _ (fun j h1 h2 => ?_)
    unfold s_chp s_mchp
    rw [f0, f1, zz_addN (by omega), zz_addN (by omega), i_rem_n (by omega) (by omega) (by omega)]
    have hm := Nat.mod_le (L + j) (fT (G 0) + j)
    exact decide_eq_decide.mpr (nI_eq (b := 0) (by omega) (by omega))
  unfold s_cheat s_mcheat
  rw [zz_01, ef]
  have ee : s_cheatE F what (zz_find (s_mchp L (fT (G 0))) 10 0) = s_mcheatE L (fT (G 0)) what (zz_find (s_mchp L (fT (G 0))) 10 0) := by
    cases hz : zz_find (s_mchp L (fT (G 0))) 10 0 with
    | none => rfl
    | some j =>
      have hj := zz_find_in _ _ _ hz
      unfold s_cheatE s_mcheatE
      dsimp only
      rw [f0, f1, zz_addN (by omega), zz_addN (by omega)]
      have eq : i_quo (nI (L + j)) (nI (fT (G 0) + j)) = nI ((L + j) / (fT (G 0) + j)) := by
        unfold i_quo
        rw [if_neg (fun q => by have := (nI_eq (b := 0) (by omega) (by omega)).mp q; omega), zz_div (by omega) (by omega)]
      rw [eq]
  rw [ee]
theorem c_fold_cg {f g : Nat → Int32} {op : Int32 → Int32 → Int32} : ∀ (m k : Nat) (a : Int32), (∀ j : Nat, k ≤ j → j < k + m → f j = g j) → c_fold f op m k a = c_fold g op m k a
  | 0, _, _, _ => rfl
  | m + 1, k, a, h => by
      unfold c_fold
      rw [h k (by omega) (by omega)]
      exact c_fold_cg m (k + 1) _ (fun j h1 h2 => h j (by omega) (by omega))
/-- CUTS at a start, of both -/
theorem RR.cutS {Z N Zm : Nat → Int32} {F G : Nat → Nat → Int32} (h : RR Z N F Zm G) {s : Nat} (h1 : 1 ≤ s) (h2 : s ≤ fT (G 0)) : c_cuts F (fR (G 0)) (nI s) = r_cutS (G 0) (fT (G 0)) (fJ (G 0)) (fR (G 0)) (fe (G 0)) (fun s => fw (upd (G 0) 6 (nI s))) (fun s => fP (upd (G 0) 6 (nI s))) s := by
  obtain ⟨⟨hT, hT1, hT2⟩, hJ, hR, hR1, hR8⟩ := g_TJR h.wall
  unfold c_cuts r_cutS
  refine c_fold_cg _ _ _ (fun j _ hj => ?_)
  have k := c_lay_ok (fun i hi => h.F0 hi) h.wall (fun _ => 0) (r := j) (by omega) h1 h2
  rw [hT]
  exact w_cuts_n k
theorem zz_mn_le (g : Nat → Int32) : ∀ (m k : Nat) (a : Int32), zz_mn g m k a ≤ a
  | 0, _, a => Int32.le_refl a
  | m + 1, k, a => by
      unfold zz_mn
      refine Int32.le_trans (zz_mn_le g m (k + 1) _) ?_
      by_cases c : a ≤ g k
      · rw [if_pos c]; exact Int32.le_refl a
      · rw [if_neg c]; exact Int32.le_of_lt (Int32.not_le.mp c)
theorem i_min_op : i_min = fun v o : Int32 => if v ≤ o then v else o := by
  funext v o
  unfold i_min
  by_cases c : o < v
  · rw [if_pos c, if_neg (Int32.not_le.mpr c)]
  · rw [if_neg c, if_pos (Int32.not_lt.mp c)]
/-- the NARROWEST piece at a start, of both -/
theorem RR.narS {Z N Zm : Nat → Int32} {F G : Nat → Nat → Int32} (h : RR Z N F Zm G) {s : Nat} (h1 : 1 ≤ s) (h2 : s ≤ fT (G 0)) : c_nar F (fR (G 0)) (nI s) = r_narS (G 0) (fT (G 0)) (fJ (G 0)) (fR (G 0)) (fe (G 0)) (fun s => fw (upd (G 0) 6 (nI s))) (fun s => fP (upd (G 0) 6 (nI s))) s := by
  obtain ⟨⟨hT, hT1, hT2⟩, hJ, hR, hR1, hR8⟩ := g_TJR h.wall
  have f1 : F 0 1 = nI (fT (G 0)) := (h.F0 (by decide)).trans hT
  unfold c_nar r_narS
  rw [f1]
  refine (c_fold_cg _ _ _ (g := fun r => r_nar (r_B (fe (G 0) r) (fw (upd (G 0) 6 (nI s)) r) (fT (G 0)) (fJ (G 0))) (fP (upd (G 0) 6 (nI s)) r)) (fun j _ hj => ?_)).trans ?_
  · exact w_nar_n (c_lay_ok (fun i hi => h.F0 hi) h.wall (fun _ => 0) (r := j) (by omega) h1 h2)
  · have hw0 : fw (upd (G 0) 6 (nI s)) 0 ≤ fT (G 0) := (c_lay_ok (fun i hi => h.F0 hi) h.wall (fun _ => 0) (r := 0) (by omega) h1 h2).2.2.1
    have hx : r_nar (r_B (fe (G 0) 0) (fw (upd (G 0) 6 (nI s)) 0) (fT (G 0)) (fJ (G 0))) (fP (upd (G 0) 6 (nI s)) 0) ≤ nI (fT (G 0)) := by
      refine Int32.le_trans (zz_mn_le _ _ _ _) ?_
      have hl : r_wid (fe (G 0) 0) (fw (upd (G 0) 6 (nI s)) 0) (fT (G 0)) (fJ (G 0)) 0 ≤ fT (G 0) := r_wid_le hw0
      exact (nI_leI (by omega) (by omega)).mpr hl
    obtain ⟨R, eR⟩ : ∃ R, fR (G 0) = R + 1 := ⟨fR (G 0) - 1, by omega⟩
    rw [eR, i_min_op]
    unfold c_fold
    dsimp only
    generalize r_nar (r_B (fe (G 0) 0) (fw (upd (G 0) 6 (nI s)) 0) (fT (G 0)) (fJ (G 0))) (fP (upd (G 0) 6 (nI s)) 0) = x at hx ⊢
    have e1 : (if nI (fT (G 0)) ≤ x then nI (fT (G 0)) else x) = x := by
      by_cases c : nI (fT (G 0)) ≤ x
      · rw [if_pos c]; exact Int32.le_antisymm c hx
      · rw [if_neg c]
    have e2 : (if (9999 : Int32) ≤ x then 9999 else x) = x := by
      refine if_neg (fun q => ?_)
      have q2 : nI 9999 ≤ nI (fT (G 0)) := Int32.le_trans q hx
      have := (nI_leI (by omega) (by omega)).mp q2
      omega
    rw [e1, e2]
theorem s_bst_m {n1 c1 n2 c2 : Nat → Int32} : ∀ (m k : Nat) (a : Nat × Int32 × Int32), 1 ≤ a.1 → 1 ≤ k → (∀ j : Nat, k ≤ j → j < k + m → n1 j = n2 j ∧ c1 j = c2 j) → s_bst n1 c1 m k a = s_mbst n2 c2 m k a
  | 0, _, _, _, _, _ => rfl
  | m + 1, k, a, ha, hk, h => by
      unfold s_bst s_mbst
      rw [(h k (by omega) (by omega)).1, (h k (by omega) (by omega)).2, if_neg (show ¬ (a.1 = 0) by omega)]
      have e : (if n2 k < a.2.1 then a else if a.2.1 < n2 k then (k, n2 k, c2 k) else if c2 k < a.2.2 then (k, n2 k, c2 k) else a) = (if a.2.1 < n2 k then (k, n2 k, c2 k) else if n2 k = a.2.1 then (if a.2.2 ≤ c2 k then a else (k, n2 k, c2 k)) else a) := by
        by_cases p : n2 k < a.2.1
        · have p2 : ¬ (a.2.1 < n2 k) := fun q => Int32.lt_irrefl (Int32.lt_trans p q)
          have p3 : ¬ (n2 k = a.2.1) := fun q => by rw [q] at p; exact Int32.lt_irrefl p
          rw [if_pos p, if_neg p2, if_neg p3]
        · by_cases p2 : a.2.1 < n2 k
          · rw [if_neg p, if_pos p2, if_pos p2]
          · have p3 : n2 k = a.2.1 := Int32.le_antisymm (Int32.not_lt.mp p2) (Int32.not_lt.mp p)
            rw [if_neg p, if_neg p2, if_neg p2, if_pos p3]
            by_cases p4 : c2 k < a.2.2
            · rw [if_pos p4, if_neg (Int32.not_le.mpr p4)]
            · rw [if_neg p4, if_pos (Int32.not_lt.mp p4)]
      rw [← e]
      refine s_bst_m m (k + 1) _ ?_ (by omega) (fun j h1 h2 => h j (by omega) (by omega))
      split
      · exact ha
      · split
        · exact hk
        · split
          · exact hk
          · exact ha
theorem s_bst_inv {n1 c1 : Nat → Int32} {P : Nat × Int32 × Int32 → Prop} : ∀ (m k : Nat) (a : Nat × Int32 × Int32), P a → (∀ j : Nat, k ≤ j → j < k + m → P (j, n1 j, c1 j)) → P (s_bst n1 c1 m k a)
  | 0, _, _, ha, _ => ha
  | m + 1, k, a, ha, h => by
      unfold s_bst
      refine s_bst_inv m (k + 1) _ ?_ (fun j h1 h2 => h j (by omega) (by omega))
      have hk := h k (by omega) (by omega)
      split
      · exact ha
      · split
        · exact hk
        · split
          · exact hk
          · exact ha
theorem s_bst_first {n1 c1 n2 c2 : Nat → Int32} {T : Nat} (hT : 1 ≤ T) (h : ∀ j : Nat, 1 ≤ j → j ≤ T → n1 j = n2 j ∧ c1 j = c2 j) : s_mbst n2 c2 T 1 (0, 0, 0) = s_bst n1 c1 (T - 1) 2 (1, n1 1, c1 1) := by
  obtain ⟨t, rfl⟩ : ∃ t, T = t + 1 := ⟨T - 1, by omega⟩
  have h1 := h 1 (by omega) (by omega)
  rw [h1.1, h1.2]
  exact (s_bst_m t 2 (1, n2 1, c2 1) (Nat.le_refl 1) (by omega) (fun j a b => h j (by omega) (by omega))).symm
theorem zz_02 {w e x : Int32} : (if w < 0 then e else (if w ≤ 2 then x else e)) = if 0 ≤ w ∧ w ≤ 2 then x else e := by
  by_cases c : w < 0
  · rw [if_pos c, if_neg (fun q => Int32.not_lt.mpr q.1 c)]
  · rw [if_neg c]
    by_cases c2 : w ≤ 2
    · rw [if_pos c2, if_pos ⟨Int32.not_lt.mp c, c2⟩]
    · rw [if_neg c2, if_neg (fun q => c2 q.2)]
theorem st_bestT (what : Int32) : px_st 67 176 [.int what] True := by
  intro Z N F Zm G h
  obtain ⟨⟨hT, hT1, hT2⟩, hJ, hR, hR1, hR8⟩ := g_TJR h.wall
  refine px_st_of (kc_best h.1 ((h.F0 (by decide)).trans hR) hR8 ((h.F0 (by decide)).trans hT) hT2 (by omega) what) (by decide) (kc_mbest hT hT2 (g_okS h.wall) what) (by decide) h (fun _ => ?_)
  have e1 := s_bst_first (n1 := fun s => c_nar F (fR (G 0)) (nI s)) (c1 := fun s => c_cuts F (fR (G 0)) (nI s)) (T := fT (G 0)) (by omega) (fun j a b => ⟨h.narS a b, h.cutS a b⟩)
  have inv := s_bst_inv (n1 := fun s => c_nar F (fR (G 0)) (nI s)) (c1 := fun s => c_cuts F (fR (G 0)) (nI s)) (P := fun a => a.2.1 = c_nar F (fR (G 0)) (nI a.1) ∧ a.2.2 = c_cuts F (fR (G 0)) (nI a.1)) (fT (G 0) - 1) 2 (1, c_nar F (fR (G 0)) (nI 1), c_cuts F (fR (G 0)) (nI 1)) ⟨rfl, rfl⟩ (fun j _ _ => ⟨rfl, rfl⟩)
  unfold s_best s_mbest
  rw [zz_02, e1]
  rw [inv.1, inv.2]
  rfl
theorem zz_cd_gcd {x y : Nat} (hy : 0 < y) : ∀ d : Nat, Nat.gcd x y ≤ d → zz_cd x y d = Nat.gcd x y
  | 0, h => by have := Nat.gcd_pos_of_pos_right x hy; omega
  | d + 1, h => by
      have hp := Nat.gcd_pos_of_pos_right x hy
      unfold zz_cd
      by_cases c : d + 1 ≤ 1
      · rw [if_pos c]; omega
      · rw [if_neg c]
        by_cases c2 : x % (d + 1) = 0 ∧ y % (d + 1) = 0
        · rw [if_pos c2]
          have h3 := Nat.le_of_dvd hp (Nat.dvd_gcd (Nat.dvd_of_mod_eq_zero c2.1) (Nat.dvd_of_mod_eq_zero c2.2))
          omega
        · rw [if_neg c2]
          refine zz_cd_gcd hy d ?_
          have hne : Nat.gcd x y ≠ d + 1 := fun q => c2 ⟨Nat.mod_eq_zero_of_dvd (q ▸ Nat.gcd_dvd_left x y), Nat.mod_eq_zero_of_dvd (q ▸ Nat.gcd_dvd_right x y)⟩
          omega
theorem s_odd_cg {n1 n2 : Nat → Int32} (v : Int32) : ∀ (m k n : Nat), (∀ j : Nat, k ≤ j → j < k + m → n1 j = n2 j) → s_odd n1 v m k n = s_odd n2 v m k n
  | 0, _, _, _ => rfl
  | m + 1, k, n, h => by
      unfold s_odd
      rw [h k (by omega) (by omega)]
      exact s_odd_cg v m (k + 1) _ (fun j a b => h j (by omega) (by omega))
theorem st_oddsT (v part : Int32) : px_st 71 181 [.int v, .int part] True := by
  intro Z N F Zm G h
  obtain ⟨⟨hT, hT1, hT2⟩, hJ, hR, hR1, hR8⟩ := g_TJR h.wall
  refine px_st_of (kc_odds h.1 ((h.F0 (by decide)).trans hR) hR8 ((h.F0 (by decide)).trans hT) hT2 v part) (by decide) (kc_modds hT hT2 (g_okS h.wall) (by omega) v part) (by decide) h (fun _ => ?_)
  have f1 : F 0 1 = nI (fT (G 0)) := (h.F0 (by decide)).trans hT
  have e1 := s_odd_cg (n1 := fun s => c_nar F (fR (G 0)) (nI s)) v (fT (G 0)) 1 0 (fun j a b => h.narS (s := j) a (by omega))
  have hle := s_odd_le (fun s => c_nar F (fR (G 0)) (nI s)) v (fT (G 0)) 1 0
  unfold s_odds s_modds
  rw [← e1]
  generalize s_odd (fun s => c_nar F (fR (G 0)) (nI s)) v (fT (G 0)) 1 0 = n at hle ⊢
  have gl := Nat.gcd_le_right (m := n) (n := fT (G 0)) (by omega)
  have gp := Nat.gcd_pos_of_pos_right (m := n) (n := fT (G 0)) (by omega)
  rw [zz_cd_gcd (by omega) (fT (G 0)) gl, f1]
  generalize Nat.gcd n (fT (G 0)) = g at gl gp ⊢
  have hq : ∀ a : Nat, a < 100000 → i_quo (nI a) (nI g) = nI (a / g) := fun a ha => by
    unfold i_quo
    rw [if_neg (fun q => by have := (nI_eq (b := 0) (by omega) (by omega)).mp q; omega), zz_div (by omega) (by omega)]
  rw [hq n (by omega), hq (fT (G 0)) (by omega), zz_01]
  by_cases c : v < 0
  · rw [if_pos c, if_neg (fun q => Int32.not_lt.mpr q.1 c)]
  · rw [if_neg c]
    by_cases c2 : 200 < v
    · rw [if_pos c2, if_neg (fun q => Int32.not_lt.mpr q.2 c2)]
    · rw [if_neg c2, if_pos (show 0 ≤ v ∧ v ≤ 200 from ⟨Int32.not_lt.mp c, Int32.not_lt.mp c2⟩)]
