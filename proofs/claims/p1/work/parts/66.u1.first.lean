/-! one call from the first state: equal answers of the calls that need more than RR (66.u1: by hand; p1 alone) -/
def px_s1 (jc jm : Nat) (as : List Value) : Prop := ∃ (a : Int32) (Z' N' : Nat → Int32) (F' : Nat → Nat → Int32) (Zm' : Nat → Int32) (G' : Nat → Nat → Int32), px_PM 50 jc (.ref 0 :: as) (px_CH px_Z0 px_N0 px_F0, []) (fun r h' => r = some (.int a) ∧ h' = (px_CH Z' N' F', [])) ∧ px_PM 50 jm (.ref 1000 :: as) ([], px_MH (fun _ => 0) px_G0) (fun r h' => r = some (.int a) ∧ h' = ([], px_MH Zm' G'))
theorem px_s1_st {jc jm : Nat} {as : List Value} (h : px_st jc jm as True) : px_s1 jc jm as := by
  obtain ⟨a, b, Z', N', F', Zm', G', h1, h2, h3, h4⟩ := h _ _ _ _ _ RR.first0
  have e := h4 trivial
  subst e
  exact ⟨a, Z', N', F', Zm', G', h1, h2⟩
theorem px_s1_of {jc jm d1 d2 : Nat} {as : List Value} {a b : Int32} {Z1 N1 Zm1 : Nat → Int32} {F1 G1 : Nat → Nat → Int32} (hc : px_PM d1 jc (.ref 0 :: as) (px_CH px_Z0 px_N0 px_F0, []) (fun r h' => r = some (.int a) ∧ ∃ Z' N' F', px_sc Z1 N1 F1 Z' N' F' ∧ h' = (px_CH Z' N' F', []))) (hd1 : d1 ≤ 50) (hm : px_PM d2 jm (.ref 1000 :: as) ([], px_MH (fun _ => 0) px_G0) (fun r h' => r = some (.int b) ∧ ∃ Z' F', px_sm Zm1 G1 Z' F' ∧ h' = ([], px_MH Z' F'))) (hd2 : d2 ≤ 50) (e : a = b) : px_s1 jc jm as := by
  subst e
  obtain ⟨v, h', ⟨rfl, Z', N', F', hs, rfl⟩, hp⟩ := hc.ex
  obtain ⟨v2, h2, ⟨rfl, Zm', G', hs2, rfl⟩, hp2⟩ := hm.ex
  exact ⟨a, Z', N', F', Zm', G', hp 50 hd1, hp2 50 hd2⟩
theorem s1_law (use a b c : Int32) : px_s1 60 167 [.int use, .int a, .int b, .int c] := by
  have h := RR.first0
  have t0 : r_tx0 px_G0 := h.tx0
  have t1 : r_tx1 px_G0 := h.tx1
  by_cases c0 : use = 0
  · subst c0
    exact px_s1_of (kc_law0 h.1 a b c) (by decide) (kc_mlaw t0 t1 0 a b c) (by decide) (zz_heldEq (a / 3) 0 99 (by decide))
  by_cases c1 : use = 1
  · subst c1
    exact px_s1_of (kc_law1 h.1 a b c) (by decide) (kc_mlaw t0 t1 1 a b c) (by decide) (zz_heldEq a (-99) 99 (by decide))
  · refine px_s1_of (kc_lawB h.1 use a b c (fun q => q.elim c0 c1)) (by decide) (kc_mlaw t0 t1 use a b c) (by decide) ?_
    refine (if_neg (fun q => ?_)).symm
    obtain ⟨e, hl⟩ := px_in5 (n := 1) (by decide) q
    rcases (show use.toNatClampNeg = 0 ∨ use.toNatClampNeg = 1 by omega) with h | h
    · exact c0 (by rw [e, h]; rfl)
    · exact c1 (by rw [e, h]; rfl)
theorem zz_no0 (t : Int32) : t < 0 ∨ (0 : Int32) ≤ t := by
  by_cases c : t < 0
  · exact Or.inl c
  · exact Or.inr (Int32.not_lt.mp c)
theorem zz_no1 (t : Int32) : ¬ (0 ≤ t ∧ t ≤ (0 : Int32) - 1) := by
  rw [Int32.le_iff_toInt_le, Int32.le_iff_toInt_le]
  have e : ((0 : Int32) - 1).toInt = -1 := by decide
  have e0 : (0 : Int32).toInt = 0 := by decide
  rw [e, e0]
  omega
theorem s1_seen (thing row what : Int32) : px_s1 63 170 [.int thing, .int row, .int what] := by
  have h := RR.first0
  exact px_s1_of (kc_seen h.1 h.hT thing row what) (by decide) (kc_mseen (g_ok h.wall) h.M.1 h.M.2.1 h.tx1 thing row what) (by decide) ((if_pos (zz_no0 thing)).trans (if_neg (zz_no1 thing)).symm)
theorem s1_body (i : Int32) : px_s1 74 193 [.int i] := by
  have h := RR.first0
  exact px_s1_of (kc_body h.1 i) (by decide) (kc_mbody h.2.2.2.2.2.2.2.2.1 i) (by decide) ((if_pos (zz_no0 i)).trans (if_neg (zz_no1 i)).symm)
theorem s1_told (k : Int32) : px_s1 85 206 [.int k] := by
  have h := RR.first0
  refine px_s1_of (kc_told h.1 k) (by decide) (kc_mtold k) (by decide) ?_
  unfold s_told s_mtold
  by_cases c : 1 ≤ k ∧ k ≤ 6
  · rw [if_neg (Int32.not_lt.mpr c.1), if_pos c.2, if_pos c]
    exact (ite_self (0 : Int32))
  · rw [if_neg c]
    by_cases c1 : k < 1
    · rw [if_pos c1]
    · rw [if_neg c1, if_neg (fun q => c ⟨Int32.not_lt.mp c1, q⟩)]
theorem s1_untell (use : Int32) : px_s1 59 138 [.int use] := by
  have h := RR.first0
  by_cases c0 : use = 0
  · subst c0
    exact px_s1_of (kc_untell0 h.1) (by decide) kc_muntell0 (by decide) rfl
  by_cases c1 : use = 1
  · subst c1
    exact px_s1_of (kc_untell1 h.1) (by decide) kc_muntell1 (by decide) rfl
  · exact px_s1_of (kc_untellB h.1 use (fun q => q.elim c0 c1)) (by decide) (kc_muntellB use (fun q => q.elim c0 c1)) (by decide) rfl
theorem s1_buy (what : Int32) : px_s1 64 172 [.int what] := by
  have h := RR.first0
  obtain ⟨hT, hJ, hR, hR1, hR8⟩ := g_TJR h.wall
  refine px_s1_of (kc_buy h.1 h.hT h.M.2.2.1 h.M.2.1 ((h.F0 (by decide)).trans hR) hR8 what) (by decide) (kc_mbuy (g_ok h.wall) h.M.1 h.M.2.1 h.tx1 h.tx0 what) (by decide) ?_
  have key : ∀ w : Fin 6, s_buy (px_G0 0 10).toNatClampNeg (fR (px_G0 0)) px_Z0 px_N0 px_F0 (nI w.1) = s_mbuy (fT (px_G0 0)) (fJ (px_G0 0)) (fR (px_G0 0)) (px_G0 0 10).toNatClampNeg (fe (px_G0 0)) (fw (px_G0 0)) (fP (px_G0 0)) px_G0 (nI w.1) := by decide +kernel
  by_cases c0 : what = 0
  · subst c0; exact key 0
  by_cases c1 : what = 1
  · subst c1; exact key 1
  by_cases c2 : what = 2
  · subst c2; exact key 2
  by_cases c3 : what = 3
  · subst c3; exact key 3
  by_cases c4 : what = 4
  · subst c4; exact key 4
  by_cases c5 : what = 5
  · subst c5; exact key 5
  unfold s_buy s_mbuy
  rw [if_neg c0, if_neg c1, if_neg c2, if_neg c3, if_neg c4, if_neg c5, if_neg c0, if_neg c1, if_neg c2, if_neg c3, if_neg c4, if_neg c5]
theorem s1_calm (what : Int32) : px_s1 68 177 [.int what] := by
  have h := RR.first0
  obtain ⟨⟨hT, hT1, hT2⟩, hJ, hR, hR1, hR8⟩ := g_TJR h.wall
  refine px_s1_of (kc_calm h.1 h.hT h.M.2.2.1 h.M.2.1 ((h.F0 (by decide)).trans hR) hR8 ((h.F0 (by decide)).trans hT) hT2 (by omega) what) (by decide) (kc_mcalm hT hT2 (g_okS h.wall) h.M.1 h.M.2.1 h.tx1 what) (by decide) ?_
  have key : ∀ w : Fin 2, s_calmv (px_G0 0 10).toNatClampNeg (fR (px_G0 0)) (fT (px_G0 0)) px_Z0 px_N0 px_F0 (nI w.1) = s_mcalmv (fT (px_G0 0)) (fJ (px_G0 0)) (fR (px_G0 0)) (px_G0 0 10).toNatClampNeg (fe (px_G0 0)) (fun s => fw (upd (px_G0 0) 6 (nI s))) (fun s => fP (upd (px_G0 0) 6 (nI s))) px_G0 (nI w.1) := by decide +kernel
  by_cases c0 : what = 0
  · subst c0; exact key 0
  by_cases c1 : what = 1
  · subst c1; exact key 1
  unfold s_calmv s_mcalmv
  have c2 : ¬ (0 ≤ what ∧ what ≤ 1) := fun q => by
    obtain ⟨e, hl⟩ := px_in5 (n := 1) (by decide) q
    rcases (show what.toNatClampNeg = 0 ∨ what.toNatClampNeg = 1 by omega) with h | h
    · exact c0 (by rw [e, h]; rfl)
    · exact c1 (by rw [e, h]; rfl)
  rw [zz_01, if_neg c2, if_neg c2]
theorem s1_textU {u : Nat} {T : Nat → Int32} {x : t_R × Option Nat} (hx : x = t_run u T 0 0 ([], [], 0, 0, true)) : (if t_end 0 x = -1 then (1 : Int32) else -10 - t_end 0 x) = -10 := by
  subst hx
  show (if t_end 0 (([], [], 0, 0, true), none) = -1 then (1 : Int32) else -10 - t_end 0 (([], [], 0, 0, true), none)) = -10
  decide
theorem s1_textM {u : Nat} {T : Nat → Int32} {bb : Bool} {a' o' : Nat} {l' : m_L} (h : m_R 0 T u 0 0 0 [] bb a' o' l') : (if bb = true ∧ a' = 0 then (1 : Int32) else -10 - nI a') = -10 := by
  obtain ⟨h1, h2, h3, h4, t, h5, h6, h7⟩ := h.S
  have e : a' = 0 := by have := h2 (Nat.le_refl 0); omega
  subst e
  rw [if_neg (fun q => by have := (h7 q.1).2.2 (by omega); omega)]
  rfl
theorem s1_text (use : Int32) : px_s1 58 137 [.int use] := by
  have h := RR.first0
  by_cases c0 : use = 0
  · subst c0
    obtain ⟨v, h', ⟨x, hx, rfl, Z', N', F', rfl, -⟩, hp⟩ := (kc_text0 (Z := px_Z0) (N := px_N0) (F := px_F0) (P := 0) (T := fun j => px_G0 0 (286 + j)) h.1 (by omega) rfl (fun j hj => absurd hj (Nat.not_lt_zero j))).ex
    obtain ⟨v2, h2, ⟨bb, a', o', l', R', rfl, Zm', G', rfl, -⟩, hp2⟩ := (kc_mtext0 (Z := fun _ => 0) (F := px_G0) (P := 0) (T := fun j => px_G0 0 (286 + j)) (by omega) rfl (fun j hj => absurd hj (Nat.not_lt_zero j))).ex
    rw [s1_textU hx] at hp
    rw [s1_textM R'] at hp2
    exact ⟨-10, Z', N', F', Zm', G', hp 50 (by decide), hp2 50 (by decide)⟩
  by_cases c1 : use = 1
  · subst c1
    obtain ⟨v, h', ⟨x, hx, rfl, Z', N', F', rfl, -⟩, hp⟩ := (kc_text1 (Z := px_Z0) (N := px_N0) (F := px_F0) (P := 0) (T := fun j => px_G0 0 (286 + j)) h.1 (by omega) rfl (fun j hj => absurd hj (Nat.not_lt_zero j))).ex
    obtain ⟨v2, h2, ⟨bb, a', o', l', R', rfl, Zm', G', rfl, -⟩, hp2⟩ := (kc_mtext1 (Z := fun _ => 0) (F := px_G0) (P := 0) (T := fun j => px_G0 0 (286 + j)) (by omega) rfl (fun j hj => absurd hj (Nat.not_lt_zero j))).ex
    rw [s1_textU hx] at hp
    rw [s1_textM R'] at hp2
    exact ⟨-10, Z', N', F', Zm', G', hp 50 (by decide), hp2 50 (by decide)⟩
  · exact px_s1_of (kc_textB h.1 use (fun q => q.elim c0 c1)) (by decide) (kc_mtextB use (fun q => q.elim c0 c1)) (by decide) rfl
theorem s1_count (what : Int32) : px_s1 84 205 [.int what] := by
  have h := RR.first0
  by_cases c : what = 4
  · subst c
    exact px_s1_of (kc_count h.1 4) (by decide) (kc_mcount 4) (by decide) rfl
  · obtain ⟨a, b, Z', N', F', Zm', G', h1, h2, h3, h4⟩ := st_count what _ _ _ _ _ h
    have e := h4 c
    subst e
    exact ⟨a, Z', N', F', Zm', G', h1, h2⟩
theorem px_pair1 {jc jm : Nat} {as : List Value} (hs : px_s1 jc jm as) : ∃ (a : Int32) (Z' N' : Nat → Int32) (F' : Nat → Nat → Int32) (Zm' : Nat → Int32) (G' : Nat → Nat → Int32), px_PM 50 jc (.ref 0 :: as) (px_C0, px_M0) (fun r h' => r = some (.int a) ∧ h' = (px_CH Z' N' F', px_M0)) ∧ px_PM 50 jm (.ref 1000 :: as) (px_CH Z' N' F', px_M0) (fun r h' => r = some (.int a) ∧ h' = (px_CH Z' N' F', px_MH Zm' G')) := by
  obtain ⟨a, Z', N', F', Zm', G', h1, h2⟩ := hs
  refine ⟨a, Z', N', F', Zm', G', ?_, ?_⟩
  · have k1 := px_PM.left (Q := fun (r : Option Value) (C : List va_E) => r = some (.int a) ∧ C = px_CH Z' N' F') px_M0 (h1.mono (Nat.le_refl _) (fun v h' q => ⟨q.1, congrArg Prod.fst q.2⟩))
    exact k1.mono (Nat.le_refl _) (fun v h' q => ⟨q.1.1, Prod.ext q.1.2 q.2⟩)
  · have k2 := px_PM.right (Q := fun (r : Option Value) (M : List va_E) => r = some (.int a) ∧ M = px_MH Zm' G') (px_CH Z' N' F') (h2.mono (Nat.le_refl _) (fun v h' q => ⟨q.1, congrArg Prod.snd q.2⟩))
    exact k2.mono (Nat.le_refl _) (fun v h' q => ⟨q.1.1, Prod.ext q.2 q.1.2⟩)
