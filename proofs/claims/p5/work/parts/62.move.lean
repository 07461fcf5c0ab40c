theorem zz_sbw {x n : Int32} {S : Nat} (hx : x.toInt = S) (hS : S ≤ 24) (hn : 0 ≤ n.toInt) : (x - n).toInt = S - n.toInt := by
  have hlt := n.toInt_lt
  rw [Int32.toInt_sub, hx]
  exact Int.bmod_eq_of_le (by omega) (by omega)
theorem zz_mvc {x i n : Int32} {S : Nat} (hx : x.toInt = S) (hS : S ≤ 24) : (i < 0 ∨ n < 0 ∨ x < n ∨ x - n < i) ↔ ¬ (0 ≤ i.toInt ∧ 0 ≤ n.toInt ∧ i.toInt + n.toInt ≤ S) := by
  have z : (0 : Int32).toInt = 0 := rfl
  simp only [Int32.lt_iff_toInt_lt, z, hx]
  by_cases hn : 0 ≤ n.toInt
  · rw [zz_sbw hx hS hn]; omega
  · generalize (x - n).toInt = y; omega
theorem st_move (sheet i other j n : Int32) : px_st 77 197 [.int sheet, .int i, .int other, .int j, .int n] True := by
  intro Z N F Zm G h
  rcases zz_sheet sheet with c | ⟨k, hk, rfl⟩ <;> rcases zz_sheet other with c2 | ⟨k2, hk2, rfl⟩
  · exact px_st_of (c := True) (kc_moveB3 h.1 sheet i other j n c c2) (by decide) (kc_mmoveB3 sheet i other j n c c2) (by decide) h (fun _ => rfl)
  · exact px_st_of (c := True) (kc_moveB1 h.1 sheet i k2 j n c hk2) (by decide) (kc_mmoveB1 sheet i k2 j n c hk2) (by decide) h (fun _ => rfl)
  · exact px_st_of (c := True) (kc_moveB2 h.1 k i other j n hk c2) (by decide) (kc_mmoveB2 k i other j n hk c2) (by decide) h (fun _ => rfl)
  have hS := h.2.2.2.2.2.1
  obtain ⟨a1, a2, ⟨S, s1, s2⟩, a4⟩ := hS k hk
  obtain ⟨b1, b2, ⟨S2, t1, t2⟩, b4⟩ := hS k2 hk2
  have hc := kc_move (Z := Z) (F := F) h.1 k i k2 j n hk hk2
  have hm := kc_mmove (Z := Zm) (F := G) k i k2 j n hk hk2 s2 t2 s1 t1
  by_cases c0 : G 11 k = 0
  · rw [show s_move Z N F k i k2 j n = (-1000000000 - 2, Z, N, F) from if_pos (a1.trans c0)] at hc
    rw [show s_mmove Zm G k i k2 j n = (-1000000000 - 2, Zm, G) from if_pos c0] at hm
    exact px_st_of (c := True) hc (by decide) hm (by decide) h (fun _ => rfl)
  have z0 : ¬ (Z (2 + k) = 0) := fun q => c0 (a1.symm.trans q)
  by_cases c1 : G 11 k2 = 0
  · rw [show s_move Z N F k i k2 j n = (-1000000000 - 2, Z, N, F) from (if_neg z0).trans (if_pos (b1.trans c1))] at hc
    rw [show s_mmove Zm G k i k2 j n = (-1000000000 - 2, Zm, G) from (if_neg c0).trans (if_pos c1)] at hm
    exact px_st_of (c := True) hc (by decide) hm (by decide) h (fun _ => rfl)
  have z1 : ¬ (Z (2 + k2) = 0) := fun q => c1 (b1.symm.trans q)
  by_cases c2 : G 11 k = G 11 k2
  case neg =>
    rw [show s_move Z N F k i k2 j n = (-1000000000 - 5, Z, N, F) from (if_neg z0).trans ((if_neg z1).trans (if_neg (by rw [a1, b1]; exact c2)))] at hc
    rw [show s_mmove Zm G k i k2 j n = (-1000000000 - 5, Zm, G) from (if_neg c0).trans ((if_neg c1).trans (if_neg c2))] at hm
    exact px_st_of (c := True) hc (by decide) hm (by decide) h (fun _ => rfl)
  have z2 : Z (2 + k) = Z (2 + k2) := by rw [a1, b1]; exact c2
  obtain ⟨n1, n2⟩ := a4 c0
  obtain ⟨m1, m2⟩ := b4 c1
  have e1 : (N (19 + k)).toInt = S := by rw [n1, s2, nI_toInt (by omega)]
  have e2 : (N (19 + k2)).toInt = S2 := by rw [m1, t2, nI_toInt (by omega)]
  have g1 : (G 12 k).toInt = S := by rw [s2, nI_toInt (by omega)]
  have g2 : (G 12 k2).toInt = S2 := by rw [t2, nI_toInt (by omega)]
  have q1 := zz_mvc (i := i) (n := n) e1 s1
  have q2 := zz_mvc (i := j) (n := n) e2 t1
  have z : (0 : Int32).toInt = 0 := rfl
  by_cases P : 0 ≤ i.toInt ∧ 0 ≤ j.toInt ∧ 0 ≤ n.toInt ∧ i.toInt + n.toInt ≤ S ∧ j.toInt + n.toInt ≤ S2
  case neg =>
    have ec : s_move Z N F k i k2 j n = (-1000000000 - 1, Z, N, F) := by
      refine (if_neg z0).trans ((if_neg z1).trans ((if_pos z2).trans ?_))
      by_cases p1 : i < 0 ∨ n < 0 ∨ N (19 + k) < n ∨ N (19 + k) - n < i
      · exact if_pos p1
      · refine (if_neg p1).trans (if_pos (q2.mpr (fun w => P ?_)))
        have p2 := Decidable.not_not.mp (fun w => p1 (q1.mpr w))
        exact ⟨p2.1, w.1, p2.2.1, p2.2.2, w.2.2⟩
    have em : s_mmove Zm G k i k2 j n = (-1000000000 - 1, Zm, G) := by
      refine (if_neg c0).trans ((if_neg c1).trans ((if_pos c2).trans ?_))
      by_cases p1 : n < 0
      · exact if_pos p1
      refine (if_neg p1).trans ?_
      by_cases p2 : i < 0
      · exact if_pos p2
      refine (if_neg p2).trans ?_
      by_cases p3 : j < 0
      · exact if_pos p3
      refine (if_neg p3).trans ?_
      rw [Int32.lt_iff_toInt_lt, z] at p1 p2 p3
      have hn : 0 ≤ n.toInt := by omega
      by_cases p4 : G 12 k - n < i
      · exact if_pos p4
      refine (if_neg p4).trans (if_neg (fun w => P ?_))
      rw [Int32.lt_iff_toInt_lt, zz_sbw g1 s1 hn] at p4
      rw [Int32.le_iff_toInt_le, zz_sbw g2 t1 hn] at w
      omega
    rw [ec] at hc
    rw [em] at hm
    exact px_st_of (c := True) hc (by decide) hm (by decide) h (fun _ => rfl)
  obtain ⟨pi, pj, pn, pS, pS2⟩ := P
  have ni : ¬ (i < 0) := by rw [Int32.lt_iff_toInt_lt, z]; omega
  have nj : ¬ (j < 0) := by rw [Int32.lt_iff_toInt_lt, z]; omega
  have nn : ¬ (n < 0) := by rw [Int32.lt_iff_toInt_lt, z]; omega
  have f1 : ¬ (G 12 k - n < i) := by rw [Int32.lt_iff_toInt_lt, zz_sbw g1 s1 pn]; omega
  have f2 : j ≤ G 12 k2 - n := by rw [Int32.le_iff_toInt_le, zz_sbw g2 t1 pn]; omega
  have r1 : ¬ (i < 0 ∨ n < 0 ∨ N (19 + k) < n ∨ N (19 + k) - n < i) := fun w => q1.mp w ⟨pi, pn, pS⟩
  have r2 : ¬ (j < 0 ∨ n < 0 ∨ N (19 + k2) < n ∨ N (19 + k2) - n < j) := fun w => q2.mp w ⟨pj, pn, pS2⟩
  obtain ⟨a, ha, rfl⟩ := nI_of nn
  obtain ⟨b, hb, rfl⟩ := nI_of ni
  obtain ⟨c, hcc, rfl⟩ := nI_of nj
  rw [nI_toInt (by omega), nI_toInt (by omega)] at pS pS2
  have ea : (nI a).toNatClampNeg = a := nI_clamp (by omega)
  have eb : (nI b).toNatClampNeg = b := nI_clamp (by omega)
  have ec : (nI c).toNatClampNeg = c := nI_clamp (by omega)
  rw [show s_move Z N F k (nI b) k2 (nI c) (nI a) = (nI a, Z, N, va_up F (19 + k2) (va_cpy (F (19 + k)) (F (19 + k2)) b c a)) from ((if_neg z0).trans ((if_neg z1).trans ((if_pos z2).trans ((if_neg r1).trans (if_neg r2))))).trans (by rw [ea, eb, ec])] at hc
  rw [show s_mmove Zm G k (nI b) k2 (nI c) (nI a) = (nI a, Zm, va_up (va_up G 14 (zz_pl (fun t => G 13 (24 * k + b + t)) (G 14) 0 a)) 13 (zz_pl (zz_pl (fun t => G 13 (24 * k + b + t)) (G 14) 0 a) (G 13) (24 * k2 + c) a)) from ((if_neg c0).trans ((if_neg c1).trans ((if_pos c2).trans ((if_neg nn).trans ((if_neg ni).trans ((if_neg nj).trans ((if_neg f1).trans (if_pos f2)))))))).trans (by rw [ea, eb, ec]; rfl)] at hm
  refine px_st_of (c := True) hc (by decide) hm (by decide) ?_ (fun _ => rfl)
  refine h.shs (fun _ _ => rfl) (fun _ _ => rfl) (fun y hy => px_up_ne _ _ (by omega)) (fun y hy => ?_) h.1 ?_
  · show va_up (va_up G 14 _) 13 _ y = _
    rw [px_up_ne _ _ (by omega), px_up_ne _ _ (by omega)]
  refine g_sh_k hk2 hS (fun _ _ => rfl) (fun _ _ => rfl) (fun y hy => px_up_ne _ _ hy) (fun _ _ => rfl) (fun _ _ => rfl) (fun y hy => if_neg (by omega)) ⟨b1, b2, ⟨S2, t1, t2⟩, fun _ => ⟨m1, fun y hy => ?_⟩⟩
  show va_up F (19 + k2) _ (19 + k2) y = zz_pl (zz_pl (fun t => G 13 (24 * k + b + t)) (G 14) 0 a) (G 13) (24 * k2 + c) a (24 * k2 + y)
  rw [px_up_self]
  by_cases cy : c ≤ y ∧ y < c + a
  · refine (if_pos cy).trans (Eq.trans ?_ (if_pos (by omega)).symm)
    refine (n2 (b + (y - c)) ?_).trans (Eq.trans ?_ (if_pos (by omega)).symm)
    · rw [s2, nI_clamp (by omega)]; omega
    · show G 13 (24 * k + (b + (y - c))) = G 13 (24 * k + b + (24 * k2 + y - (24 * k2 + c) - 0))
      congr 1
      omega
  · exact (if_neg cy).trans ((m2 y hy).trans (if_neg (by omega)).symm)
