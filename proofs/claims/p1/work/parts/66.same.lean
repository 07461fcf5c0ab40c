/-! answers equal, of calls kept safe in 57 -/
theorem zz_held {q T : Int32} : (if q < 1 then T else (if q ≤ T then q else T)) = if 1 ≤ q ∧ q ≤ T then q else T := by
  by_cases c : q < 1
  · rw [if_pos c, if_neg (fun w => Int32.not_lt.mpr w.1 c)]
  · rw [if_neg c]
    by_cases c2 : q ≤ T
    · rw [if_pos c2, if_pos ⟨Int32.not_lt.mp c, c2⟩]
    · rw [if_neg c2, if_neg (fun w => c2 w.2)]
theorem zz_01 {w e x : Int32} : (if w < 0 then e else (if w ≤ 1 then x else e)) = if 0 ≤ w ∧ w ≤ 1 then x else e := by
  by_cases c : w < 0
  · rw [if_pos c, if_neg (fun q => Int32.not_lt.mpr q.1 c)]
  · rw [if_neg c]
    by_cases c2 : w ≤ 1
    · rw [if_pos c2, if_pos ⟨Int32.not_lt.mp c, c2⟩]
    · rw [if_neg c2, if_neg (fun q => c2 q.2)]
theorem st_middleT (what : Int32) : px_st 70 179 [.int what] True := by
  intro Z N F Zm G h
  obtain ⟨⟨hT, hT1, hT2⟩, ⟨hJ, hJ9⟩, hR, hR1, hR8⟩ := g_TJR h.wall
  have hb : ¬ (G 0 1 + G 0 2 = 0) := fun q => by
    rw [hT, hJ] at q
    have e := zz_add (a := fT (G 0)) (b := fJ (G 0)) (nI_toInt (by omega)) (nI_toInt (by omega)) (by omega) (by omega)
    rw [q, show (0 : Int32).toInt = 0 from rfl] at e
    omega
  refine px_st_of (kc_middle h.1 what) (by decide) (kc_mmiddle hb what) (by decide) h (fun _ => ?_)
  unfold s_middle s_mmiddle
  rw [h.F0 (i := 0) (by decide), h.F0 (i := 1) (by decide), h.F0 (i := 2) (by decide)]
  have er : ∀ a : Int32, i_rem a (G 0 1 + G 0 2) = a - a / (G 0 1 + G 0 2) * (G 0 1 + G 0 2) := fun a => if_neg hb
  rw [er, er, zz_held, zz_held, zz_01]
