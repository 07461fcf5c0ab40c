theorem zz_sheet (s : Int32) : (s < 0 ∨ 4 ≤ s) ∨ ∃ k : Nat, k < 4 ∧ s = nI k := by
  by_cases c : s < 0 ∨ 4 ≤ s
  · exact Or.inl c
  · exact Or.inr (zz_rown (x := 4) (M := 4) rfl (by decide) c)
theorem RR.SN {Z N Zm : Nat → Int32} {F G : Nat → Nat → Int32} (h : RR Z N F Zm G) {k : Nat} (hk : k < 4) : ∃ S : Nat, N (19 + k) = nI S ∧ S ≤ 24 := by
  have h1 := h.1.nn (show 19 + k < 27 by omega)
  have h2 := h.1.lim (show 19 + k < 27 by omega)
  have e : px_lim (19 + k) = 24 := by
    rcases (show k = 0 ∨ k = 1 ∨ k = 2 ∨ k = 3 by omega) with rfl | rfl | rfl | rfl <;> rfl
  rw [e] at h2
  obtain ⟨n, hn, e2⟩ := nI_of (Int32.not_lt.mpr h1)
  refine ⟨n, e2, ?_⟩
  rw [e2, nI_toInt (by omega)] at h2
  omega
theorem RR.SG {Z N Zm : Nat → Int32} {F G : Nat → Nat → Int32} (h : RR Z N F Zm G) {k : Nat} (hk : k < 4) : ∃ S : Nat, G 12 k = nI S ∧ S ≤ 24 := by
  obtain ⟨S, h1, h2⟩ := (h.2.2.2.2.2.1 k hk).2.2.1
  exact ⟨S, h2, h1⟩
theorem RR.kdN {Z N Zm : Nat → Int32} {F G : Nat → Nat → Int32} (h : RR Z N F Zm G) : ∀ n : Nat, n < (G 0 10).toNatClampNeg → ∃ kd : Nat, kd < 7 ∧ G 0 (12 + 4 * n + 0) = nI kd := by
  obtain ⟨-, ⟨-, -, -, ⟨M, hM, e, hk⟩, -⟩, -⟩ := h
  intro n hn
  rw [e, nI_clamp (by omega)] at hn
  exact (hk n hn).1
theorem RR.kdC {Z N Zm : Nat → Int32} {F G : Nat → Nat → Int32} (h : RR Z N F Zm G) (t : Int32) (c : ¬ (t < 0 ∨ N 1 ≤ t)) : ∃ kd : Nat, kd < 7 ∧ F 1 t.toNatClampNeg = nI kd := by
  have hM := h.M
  obtain ⟨n, hn, rfl⟩ := zz_rown hM.2.2.1 (by omega) c
  rw [nI_clamp (by omega)]
  obtain ⟨kd, k1, k2⟩ := h.kdN n hn
  exact ⟨kd, k1, ((h.2.2.1.2.2.2.2.1 n hn).1).trans k2⟩
theorem RR.tx0 {Z N Zm : Nat → Int32} {F G : Nat → Nat → Int32} (h : RR Z N F Zm G) : r_txf0 (G 0) := h.2.1.2.2.2.2.1
theorem RR.tx1 {Z N Zm : Nat → Int32} {F G : Nat → Nat → Int32} (h : RR Z N F Zm G) : r_txf1 (G 0) := h.2.1.2.2.2.2.2
theorem st_body (i : Int32) : px_st 74 193 [.int i] False := by
  intro Z N F Zm G h
  exact px_st_of (kc_body h.1 i) (by decide) (kc_mbody h.2.2.2.2.2.2.2.2.1 i) (by decide) h (fun q => q.elim)
theorem st_told (k : Int32) : px_st 85 206 [.int k] False := by
  intro Z N F Zm G h
  exact px_st_of (kc_told h.1 k) (by decide) (kc_mtold k) (by decide) h (fun q => q.elim)
theorem st_law (use a b c : Int32) : px_st 60 167 [.int use, .int a, .int b, .int c] False := by
  intro Z N F Zm G h
  have t0 : r_tx0 G := h.tx0
  have t1 : r_tx1 G := h.tx1
  by_cases c0 : use = 0
  · subst c0
    exact px_st_of (kc_law0 h.1 a b c) (by decide) (kc_mlaw t0 t1 0 a b c) (by decide) h (fun q => q.elim)
  by_cases c1 : use = 1
  · subst c1
    exact px_st_of (kc_law1 h.1 a b c) (by decide) (kc_mlaw t0 t1 1 a b c) (by decide) h (fun q => q.elim)
  · exact px_st_of (kc_lawB h.1 use a b c (fun q => q.elim c0 c1)) (by decide) (kc_mlaw t0 t1 use a b c) (by decide) h (fun q => q.elim)
theorem st_seen (thing row what : Int32) : px_st 63 170 [.int thing, .int row, .int what] False := by
  intro Z N F Zm G h
  exact px_st_of (kc_seen h.1 h.hT thing row what) (by decide) (kc_mseen (g_ok h.wall) h.M.1 h.M.2.1 h.tx1 thing row what) (by decide) h (fun q => q.elim)
theorem st_buy (what : Int32) : px_st 64 172 [.int what] False := by
  intro Z N F Zm G h
  obtain ⟨hT, hJ, hR, hR1, hR8⟩ := g_TJR h.wall
  exact px_st_of (kc_buy h.1 h.hT h.M.2.2.1 h.M.2.1 ((h.F0 (by decide)).trans hR) hR8 what) (by decide) (kc_mbuy (g_ok h.wall) h.M.1 h.M.2.1 h.tx1 h.tx0 what) (by decide) h (fun q => q.elim)
theorem st_calm (what : Int32) : px_st 68 177 [.int what] False := by
  intro Z N F Zm G h
  obtain ⟨⟨hT, hT1, hT2⟩, hJ, hR, hR1, hR8⟩ := g_TJR h.wall
  exact px_st_of (kc_calm h.1 h.hT h.M.2.2.1 h.M.2.1 ((h.F0 (by decide)).trans hR) hR8 ((h.F0 (by decide)).trans hT) hT2 (by omega) what) (by decide) (kc_mcalm hT hT2 (g_okS h.wall) h.M.1 h.M.2.1 h.tx1 what) (by decide) h (fun q => q.elim)
theorem st_best (what : Int32) : px_st 67 176 [.int what] False := by
  intro Z N F Zm G h
  obtain ⟨⟨hT, hT1, hT2⟩, hJ, hR, hR1, hR8⟩ := g_TJR h.wall
  exact px_st_of (kc_best h.1 ((h.F0 (by decide)).trans hR) hR8 ((h.F0 (by decide)).trans hT) hT2 (by omega) what) (by decide) (kc_mbest hT hT2 (g_okS h.wall) what) (by decide) h (fun q => q.elim)
theorem st_odds (v part : Int32) : px_st 71 181 [.int v, .int part] False := by
  intro Z N F Zm G h
  obtain ⟨⟨hT, hT1, hT2⟩, hJ, hR, hR1, hR8⟩ := g_TJR h.wall
  exact px_st_of (kc_odds h.1 ((h.F0 (by decide)).trans hR) hR8 ((h.F0 (by decide)).trans hT) hT2 v part) (by decide) (kc_modds hT hT2 (g_okS h.wall) (by omega) v part) (by decide) h (fun q => q.elim)
theorem st_fits (sheet what : Int32) : px_st 72 183 [.int sheet, .int what] False := by
  intro Z N F Zm G h
  obtain ⟨⟨hT, hT1, hT2⟩, hJ, hR, hR1, hR8⟩ := g_TJR h.wall
  rcases zz_sheet sheet with c | ⟨k, hk, rfl⟩
  · exact px_st_of (kc_fitsB h.1 sheet what c) (by decide) (kc_mfitsB sheet what c) (by decide) h (fun q => q.elim)
  · obtain ⟨S, s1, s2⟩ := h.SN hk
    obtain ⟨S2, t1, t2⟩ := h.SG hk
    refine px_st_of (kc_fits h.1 k (P := fun s => fP (upd (G 0) 6 (nI s)) 0) hk s1 s2 (fun s u1 u2 => ?_) ((h.F0 (by decide)).trans hT) hT2 what) (by decide) (kc_mfits hT hT2 (g_okS h.wall) hk t1 t2 hR1 what) (by decide) h (fun q => q.elim)
    have k1 := c_lay_ok (fun i hi => h.F0 hi) h.wall (fun _ => 0) (r := 0) (by decide) u1 u2
    have k2 := ((g_okS h.wall s u1 u2).2.2.2.2.2.2 0 (by omega)).2.2.2.2.1
    exact ⟨k1.1.2.2.2.2, by omega⟩
theorem st_judge (sheet : Int32) : px_st 79 200 [.int sheet] False := by
  intro Z N F Zm G h
  obtain ⟨⟨hT, hT1, hT2⟩, hJ, hR, hR1, hR8⟩ := g_TJR h.wall
  rcases zz_sheet sheet with c | ⟨k, hk, rfl⟩
  · exact px_st_of (kc_judgeB h.1 sheet c) (by decide) (kc_mjudgeB sheet c) (by decide) h (fun q => q.elim)
  · obtain ⟨S, s1, s2⟩ := h.SN hk
    obtain ⟨S2, t1, t2⟩ := h.SG hk
    have k2 := ((g_ok h.wall).2.2.2.2.2.2 0 (by omega)).2.2.2.2.1
    exact px_st_of (kc_judge h.1 k (P := fP (G 0) 0) hk s1 s2 (h.lay (fun _ => 0) (r := 0) (by decide)).1.2.2.2.2 (by omega)) (by decide) (kc_mjudge hk t1 t2 (g_ok h.wall) hR1) (by decide) h (fun q => q.elim)
theorem st_voice (thing voice x : Int32) : px_st 73 192 [.int thing, .int voice, .int x] False := by
  intro Z N F Zm G h
  exact px_st_of (kc_voice h.1 h.hT h.kdC thing voice x) (by decide) (kc_mvoice h.M.1 h.M.2.1 h.kdN thing voice x) (by decide) h (fun q => q.elim)
theorem st_cheat (what : Int32) : px_st 69 178 [.int what] False := by
  intro Z N F Zm G h
  obtain ⟨⟨hT, hT1, hT2⟩, hJ, hR, hR1, hR8⟩ := g_TJR h.wall
  have hL : ∃ L : Nat, L ≤ 4000 ∧ G 0 0 = nI L := by
    obtain ⟨L, T, J, R, B, S, h0, h1', h2', h4, h5, h6, a1, a2, a3, a4, a5, a6, a7, a8, a9, a10, k1, k2⟩ := h.wall
    exact ⟨L, by omega, h0⟩
  obtain ⟨L, l1, l2⟩ := hL
  exact px_st_of (kc_cheat h.1 what) (by decide) (kc_mcheat hT l2 (by omega) hT2 l1 what) (by decide) h (fun q => q.elim)
theorem st_middle (what : Int32) : px_st 70 179 [.int what] False := by
  intro Z N F Zm G h
  obtain ⟨⟨hT, hT1, hT2⟩, ⟨hJ, hJ9⟩, hR, hR1, hR8⟩ := g_TJR h.wall
  refine px_st_of (kc_middle h.1 what) (by decide) (kc_mmiddle (fun q => ?_) what) (by decide) h (fun q => q.elim)
  rw [hT, hJ] at q
  have e := zz_add (a := fT (G 0)) (b := fJ (G 0)) (nI_toInt (by omega)) (nI_toInt (by omega)) (by omega) (by omega)
  rw [q, show (0 : Int32).toInt = 0 from rfl] at e
  omega
theorem st_as (thing kind : Int32) : px_st 55 165 [.int thing, .int kind] True := by
  intro Z N F Zm G h
  have hM := h.M
  refine px_st_of (kc_as h.1 h.hT thing kind) (by decide) (kc_mas hM.1 hM.2.1 h.kdN thing kind) (by decide) h (fun _ => ?_)
  unfold s_as s_mas
  have e1 : N 1 = G 0 10 := h.2.2.1.2.2.2.1.1
  have hq := zz_rowq (t := thing) hM.1 (by omega)
  rw [e1]
  by_cases c : thing < 0 ∨ G 0 10 ≤ thing
  · rw [if_pos c, if_neg (fun q => hq.mpr q c)]
  · rw [if_neg c, if_pos (hq.mp c)]
    obtain ⟨n, hn, rfl⟩ := zz_rown hM.1 (by omega) c
    rw [nI_clamp (by omega)]
    have hr := h.2.2.1.2.2.2.2.1 n hn
    obtain ⟨kd, k1, k2⟩ := h.kdN n hn
    have f1 : F 1 n = nI kd := hr.1.trans k2
    rw [f1, k2]
    by_cases c1 : 0 ≤ kind ∧ kind ≤ 6
    · rw [if_pos c1, if_neg (Int32.not_lt.mpr c1.1), if_pos c1.2]
      obtain ⟨ek, hk⟩ := px_in5 (n := 6) (by decide) c1
      generalize kind.toNatClampNeg = v at ek hk
      subst ek
      have key : ∀ a : Fin 7, ∀ b : Fin 7, (s_mup (nI a) 2 (nI b) = nI a ↔ nI a = 0 ∨ nI a = nI b ∨ nI a = s_above (nI b)) := by decide +kernel
      have kk := key ⟨v, by omega⟩ ⟨kd, k1⟩
      by_cases c2 : nI v = 0 ∨ nI v = nI kd ∨ nI v = s_above (nI kd)
      · rw [if_pos c2, if_pos (kk.mpr c2)]; exact hr.2.1
      · rw [if_neg c2, if_neg (fun q => c2 (kk.mp q))]
    · rw [if_neg c1]
      by_cases c2 : kind < 0
      · rw [if_pos c2]
      · rw [if_neg c2, if_neg (fun q => c1 ⟨Int32.not_lt.mp c2, q⟩)]
