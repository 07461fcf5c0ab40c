/-! voice: equal answers (66.t8: by hand) -/
theorem zz_divm1 (x : Int32) : x / (-1) = -x := by
  apply Int32.toInt_inj.mp
  have e : (-1 : Int32).toInt = -1 := by decide
  rw [Int32.toInt_div, e, Int.tdiv_neg, Int.tdiv_one, Int32.toInt_neg]
theorem zz_base {sp m x : Int32} (h : ¬ (m - sp = 0)) : i_quo x (m - sp) = r_base sp m x := by
  unfold i_quo r_base
  rw [if_neg h, if_neg h]
  by_cases c : m - sp = -1
  · rw [if_pos c, c, zz_divm1]
  · rw [if_neg c]
theorem zz_sub0 {a b : Int32} : a - b = 0 ↔ a = b := by
  constructor
  · intro h
    have e := Int32.sub_add_cancel a b
    rw [h, Int32.zero_add] at e
    exact e.symm
  · intro h
    rw [h, Int32.sub_self]
theorem v_012 {kd vo : Nat} (hk : kd < 7) (hv : vo < 3) (th ma x : Int32) : s_speak (nI kd) th ma (nI vo) x = if vo = 0 then r_drips kd th x else if vo = 1 then r_scores kd kd th ma x else r_snaps kd kd th ma x := by
  rcases (show vo = 0 ∨ vo = 1 ∨ vo = 2 by omega) with rfl | rfl | rfl <;> rcases (show kd = 0 ∨ kd = 1 ∨ kd = 2 ∨ kd = 3 ∨ kd = 4 ∨ kd = 5 ∨ kd = 6 by omega) with rfl | rfl | rfl | rfl | rfl | rfl | rfl <;> rfl
theorem v_3 {kd : Nat} (hk : kd < 7) {th ma x : Int32} (h : ¬ (ma - th = 0)) : s_speak (nI kd) th ma (nI 3) x = r_parts kd kd th ma x := by
  have hb := zz_base (x := x) h
  rcases (show kd = 0 ∨ kd = 1 ∨ kd = 2 ∨ kd = 3 ∨ kd = 4 ∨ kd = 5 ∨ kd = 6 by omega) with rfl | rfl | rfl | rfl | rfl | rfl | rfl <;> (unfold r_parts; try rw [if_neg h]; rw [← hb]; rfl)
theorem st_voiceT (thing voice x : Int32) : px_st 73 192 [.int thing, .int voice, .int x] True := by
  intro Z N F Zm G h
  have hM := h.M
  refine px_st_of (kc_voice h.1 h.hT h.kdC thing voice x) (by decide) (kc_mvoice h.M.1 h.M.2.1 h.kdN thing voice x) (by decide) h (fun _ => ?_)
  unfold s_voice s_mvoice
  have e1 : N 1 = G 0 10 := h.2.2.1.2.2.2.1.1
  have hq := zz_rowq (t := thing) hM.1 (by omega)
  rw [e1]
  by_cases c : thing < 0 ∨ G 0 10 ≤ thing
  · rw [if_pos c, if_neg (fun q => hq.mpr q c)]
  · rw [if_neg c, if_pos (hq.mp c)]
    obtain ⟨n, hn, rfl⟩ := zz_rown hM.1 (by omega) c
    have hn6 : n < 6 := by omega
    rw [nI_clamp (by omega)]
    obtain ⟨f1, f2, -, -⟩ := h.2.2.1.2.2.2.2.1 n hn
    obtain ⟨kd, k1, k2⟩ := h.kdN n hn
    have f1 : F 1 n = nI kd := f1.trans k2
    have f2 : F 2 n = G 0 (12 + 4 * n + 1) := f2
    rw [f1, f2, k2, nI_clamp (by omega)]
    by_cases cv : 0 ≤ voice ∧ voice ≤ 3
    · rw [if_neg (Int32.not_lt.mpr cv.1), if_pos cv.2, if_pos cv]
      obtain ⟨e, hl⟩ := px_in5 (n := 3) (by decide) cv
      generalize voice.toNatClampNeg = vo at e hl
      subst e
      unfold s_mvw
      rw [nI_clamp (n := n) (by omega)]
      rcases (show vo = 0 ∨ vo = 1 ∨ vo = 2 ∨ vo = 3 by omega) with rfl | rfl | rfl | rfl
      · rw [if_neg (show ¬ (nI 0 = (3 : Int32)) by decide), if_pos (show nI 0 = (0 : Int32) from rfl)]
        exact (v_012 k1 (by omega) _ _ _).trans (if_pos rfl)
      · rw [if_neg (show ¬ (nI 1 = (3 : Int32)) by decide), if_neg (show ¬ (nI 1 = (0 : Int32)) by decide), if_pos (show nI 1 = (1 : Int32) from rfl)]
        exact (v_012 k1 (by omega) _ _ _).trans ((if_neg (by omega)).trans (if_pos rfl))
      · rw [if_neg (show ¬ (nI 2 = (3 : Int32)) by decide), if_neg (show ¬ (nI 2 = (0 : Int32)) by decide), if_neg (show ¬ (nI 2 = (1 : Int32)) by decide), if_pos (show nI 2 = (2 : Int32) from rfl)]
        exact (v_012 k1 (by omega) _ _ _).trans ((if_neg (by omega)).trans (if_neg (by omega)))
      · rw [if_pos (show nI 3 = (3 : Int32) from rfl), if_neg (show ¬ (nI 3 = (0 : Int32)) by decide), if_neg (show ¬ (nI 3 = (1 : Int32)) by decide), if_neg (show ¬ (nI 3 = (2 : Int32)) by decide)]
        by_cases cp : G 0 (12 + 4 * n + 1) = nI n
        · rw [if_pos cp, if_pos (zz_sub0.mpr cp)]
        · rw [if_neg cp, if_neg (fun q => cp (zz_sub0.mp q))]
          exact v_3 k1 (fun q => cp (zz_sub0.mp q))
    · rw [if_neg cv]
      by_cases c1 : voice < 0
      · rw [if_pos c1]
      · rw [if_neg c1, if_neg (fun q => cv ⟨Int32.not_lt.mp c1, q⟩)]
