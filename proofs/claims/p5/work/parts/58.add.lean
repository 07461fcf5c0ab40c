def zz_th (f : Nat → Int32) (M : Nat) (a b c d : Int32) : Nat → Int32 := upd (upd (upd (upd (upd f (12 + 4 * M + 0) a) (12 + 4 * M + 1) b) (12 + 4 * M + 2) c) (12 + 4 * M + 3) d) 10 (upd (upd (upd (upd f (12 + 4 * M + 0) a) (12 + 4 * M + 1) b) (12 + 4 * M + 2) c) (12 + 4 * M + 3) d 10 + 1)
theorem zz_th_10 (f : Nat → Int32) (M : Nat) (a b c d : Int32) : zz_th f M a b c d 10 = f 10 + 1 := by
  unfold zz_th
  rw [px_upd_self, px_upd_ne _ _ (by omega), px_upd_ne _ _ (by omega), px_upd_ne _ _ (by omega), px_upd_ne _ _ (by omega)]
theorem zz_th_ne (f : Nat → Int32) (M : Nat) (a b c d : Int32) {j : Nat} (h1 : j ≠ 10) (h2 : j < 12 + 4 * M ∨ 12 + 4 * M + 3 < j) : zz_th f M a b c d j = f j := by
  unfold zz_th
  rw [px_upd_ne _ _ h1, px_upd_ne _ _ (by omega), px_upd_ne _ _ (by omega), px_upd_ne _ _ (by omega), px_upd_ne _ _ (by omega)]
theorem zz_th_0 (f : Nat → Int32) (M : Nat) (a b c d : Int32) : zz_th f M a b c d (12 + 4 * M + 0) = a := by
  unfold zz_th
  rw [px_upd_ne _ _ (by omega), px_upd_ne _ _ (by omega), px_upd_ne _ _ (by omega), px_upd_ne _ _ (by omega), px_upd_self]
theorem zz_th_1 (f : Nat → Int32) (M : Nat) (a b c d : Int32) : zz_th f M a b c d (12 + 4 * M + 1) = b := by
  unfold zz_th
  rw [px_upd_ne _ _ (by omega), px_upd_ne _ _ (by omega), px_upd_ne _ _ (by omega), px_upd_self]
theorem zz_th_2 (f : Nat → Int32) (M : Nat) (a b c d : Int32) : zz_th f M a b c d (12 + 4 * M + 2) = c := by
  unfold zz_th
  rw [px_upd_ne _ _ (by omega), px_upd_ne _ _ (by omega), px_upd_self]
theorem zz_th_3 (f : Nat → Int32) (M : Nat) (a b c d : Int32) : zz_th f M a b c d (12 + 4 * M + 3) = d := by
  unfold zz_th
  rw [px_upd_ne _ _ (by omega), px_upd_self]
/-- one THING more, in both -/
theorem RR.add {Z N Zm : Nat → Int32} {F G : Nat → Nat → Int32} (h : RR Z N F Zm G) {M a b c d : Nat} (hM : M < 6) (eG : G 0 10 = nI M) (ha : a < 7) (hb : b ≤ 9) (hc : c ≤ 4000) (hd1 : 1 ≤ d) (hd : d ≤ 999) : RR Z (upd (upd (upd (upd N 1 (nI (M + 1))) 2 (nI (M + 1))) 3 (nI (M + 1))) 4 (nI (M + 1))) (va_up (va_up (va_up (va_up F 1 (upd (F 1) M (nI a))) 2 (upd (F 2) M (nI b))) 3 (upd (F 3) M (nI c))) 4 (upd (F 4) M (nI d))) Zm (va_up G 0 (zz_th (G 0) M (nI a) (nI b) (nI c) (nI d))) := by
  have g10 : zz_th (G 0) M (nI a) (nI b) (nI c) (nI d) 10 = nI (M + 1) := (zz_th_10 _ _ _ _ _ _).trans (by rw [eG, nI_succ])
  have gne : ∀ {j : Nat}, j ≠ 10 → (j < 12 + 4 * M ∨ 12 + 4 * M + 3 < j) → zz_th (G 0) M (nI a) (nI b) (nI c) (nI d) j = G 0 j := fun h1 h2 => zz_th_ne _ _ _ _ _ _ h1 h2
  have hl : (G 0 10).toNatClampNeg = M := by rw [eG, nI_clamp (by omega)]
  have hL := px_lim_n (n := M + 1) (L := 6) (by omega) (by omega)
  refine RR.now h (fun _ _ => rfl) (fun j hj => ?_) (fun j hj => ?_) ?_ ?_ ?_ (h.tt.cg ⟨rfl, rfl⟩ ⟨rfl, rfl⟩ (fun j hj => gne (by omega) (by omega)))
  · rw [px_upd_ne _ _ (by omega), px_upd_ne _ _ (by omega), px_upd_ne _ _ (by omega), px_upd_ne _ _ (by omega)]
  · rw [px_up_ne _ _ (by omega), px_up_ne _ _ (by omega), px_up_ne _ _ (by omega), px_up_ne _ _ (by omega)]
  · exact (((h.1.upd (by decide) (by decide) (by decide) hL).upd (by decide) (by decide) (by decide) hL).upd (by decide) (by decide) (by decide) hL).upd (by decide) (by decide) (by decide) hL
  · obtain ⟨w0, ⟨P, p1, p2⟩, ⟨W, w1, w2⟩, ⟨M2, m1, m2, m3⟩, t0, t1⟩ := h.2.1
    have eM : M2 = M := by rw [m2, nI_clamp (by omega)] at hl; exact hl
    subst eM
    obtain ⟨u0, u1⟩ := r_txf_congr (f := G 0) (g := zz_th (G 0) M2 (nI a) (nI b) (nI c) (nI d)) (fun j h1 h2 => gne (by omega) (by omega)) t0 t1
    refine ⟨g_wall_congr w0 (fun j hj => gne (by omega) (by omega)), ⟨P, p1, (gne (by omega) (by omega)).trans p2⟩, ⟨W, w1, (gne (by omega) (by omega)).trans w2⟩, ⟨M2 + 1, by omega, g10, fun n hn => ?_⟩, u0, u1⟩
    by_cases cn : n = M2
    · subst cn
      exact ⟨⟨a, ha, zz_th_0 _ _ _ _ _ _⟩, ⟨b, hb, zz_th_1 _ _ _ _ _ _⟩, ⟨c, hc, zz_th_2 _ _ _ _ _ _⟩, ⟨d, hd1, hd, zz_th_3 _ _ _ _ _ _⟩⟩
    · rw [gne (j := 12 + 4 * n + 0) (by omega) (by omega), gne (j := 12 + 4 * n + 1) (by omega) (by omega), gne (j := 12 + 4 * n + 2) (by omega) (by omega), gne (j := 12 + 4 * n + 3) (by omega) (by omega)]
      exact m3 n (by omega)
  · obtain ⟨a1, a2, ⟨a3, a4⟩, -, a9, a10, a11⟩ := h.2.2.1
    refine ⟨fun i hi => (a1 i hi).trans (gne (by omega) (by omega)).symm, a2.trans (gne (by omega) (by omega)).symm, ⟨a3.trans (gne (by omega) (by omega)).symm, a4.trans (gne (by omega) (by omega)).symm⟩, ⟨g10.symm, g10.symm, g10.symm, g10.symm⟩, fun n hn => ?_, fun i hi => ?_, fun i hi => ?_⟩
    · rw [g10, nI_clamp (by omega)] at hn
      show upd (F 1) M (nI a) n = _ ∧ upd (F 2) M (nI b) n = _ ∧ upd (F 3) M (nI c) n = _ ∧ upd (F 4) M (nI d) n = _
      by_cases cn : n = M
      · subst cn
        rw [px_upd_self, px_upd_self, px_upd_self, px_upd_self]
        exact ⟨(zz_th_0 _ _ _ _ _ _).symm, (zz_th_1 _ _ _ _ _ _).symm, (zz_th_2 _ _ _ _ _ _).symm, (zz_th_3 _ _ _ _ _ _).symm⟩
      · rw [gne (j := 12 + 4 * n + 0) (by omega) (by omega), gne (j := 12 + 4 * n + 1) (by omega) (by omega), gne (j := 12 + 4 * n + 2) (by omega) (by omega), gne (j := 12 + 4 * n + 3) (by omega) (by omega), px_upd_ne _ _ cn, px_upd_ne _ _ cn, px_upd_ne _ _ cn, px_upd_ne _ _ cn]
        exact a9 n (by omega)
    · rw [gne (j := 8) (by omega) (by omega)] at hi
      exact (a10 i hi).trans (gne (by omega) (by omega)).symm
    · rw [gne (j := 9) (by omega) (by omega)] at hi
      exact (a11 i hi).trans (gne (by omega) (by omega)).symm
theorem st_thing (km from_ width : Int32) : px_st 52 162 [.int km, .int from_, .int width] True := by
  intro Z N F Zm G h
  have hM := h.M
  have hT := h.hT
  have hc := kc_thing (Z := Z) (F := F) h.1 h.hT km from_ width
  have hm := kc_mthing (Z := Zm) (F := G) hM.1 hM.2.1 km from_ width
  by_cases c1 : km < 0 ∨ 69 < km
  · rw [show s_thing Z N F km from_ width = (-1000000000 - 1, Z, N, F) from if_pos c1] at hc
    rw [show s_mthing Zm G km from_ width = (-1000000000 - 1, Zm, G) from if_neg (fun q => px_out.mpr q c1)] at hm
    exact px_st_of (c := True) hc (by decide) hm (by decide) h (fun _ => rfl)
  have d1 := px_out.mp c1
  by_cases c2 : from_ < 0 ∨ 4000 < from_
  · rw [show s_thing Z N F km from_ width = (-1000000000 - 1, Z, N, F) from (if_neg c1).trans (if_pos c2)] at hc
    rw [show s_mthing Zm G km from_ width = (-1000000000 - 1, Zm, G) from (if_pos d1).trans (if_neg (fun q => px_out.mpr q c2))] at hm
    exact px_st_of (c := True) hc (by decide) hm (by decide) h (fun _ => rfl)
  have d2 := px_out.mp c2
  by_cases c3 : 1 ≤ width ∧ width ≤ 999
  case neg =>
    rw [show s_mthing Zm G km from_ width = (-1000000000 - 1, Zm, G) from (if_pos d1).trans ((if_pos d2).trans (if_neg c3))] at hm
    by_cases c4 : width < 1
    · rw [show s_thing Z N F km from_ width = (-1000000000 - 1, Z, N, F) from (if_neg c1).trans ((if_neg c2).trans (if_pos c4))] at hc
      exact px_st_of (c := True) hc (by decide) hm (by decide) h (fun _ => rfl)
    · rw [show s_thing Z N F km from_ width = (-1000000000 - 1, Z, N, F) from (if_neg c1).trans ((if_neg c2).trans ((if_neg c4).trans (if_neg (fun q => c3 ⟨Int32.not_lt.mp c4, q⟩))))] at hc
      exact px_st_of (c := True) hc (by decide) hm (by decide) h (fun _ => rfl)
  have n4 : ¬ (width < 1) := Int32.not_lt.mpr c3.1
  obtain ⟨M, eM⟩ : ∃ M : Nat, (G 0 10).toNatClampNeg = M := ⟨_, rfl⟩
  have eG : G 0 10 = nI M := by rw [← eM]; exact hM.1
  have hM6 : M ≤ 6 := by rw [← eM]; exact hM.2.1
  have eN : N 1 = nI M := by rw [← eM]; exact hM.2.2.1
  by_cases cM : M = 6
  · subst cM
    rw [show s_thing Z N F km from_ width = (-1000000000 - 4, Z, N, F) from (if_neg c1).trans ((if_neg c2).trans ((if_neg n4).trans ((if_pos c3.2).trans (if_neg (by rw [eN]; decide)))))] at hc
    rw [show s_mthing Zm G km from_ width = (-1000000000 - 4, Zm, G) from (if_pos d1).trans ((if_pos d2).trans ((if_pos c3).trans (if_pos eG)))] at hm
    exact px_st_of (c := True) hc (by decide) hm (by decide) h (fun _ => rfl)
  · have c5 : (1 : Int32) ≤ 6 - N 1 := by
      rw [eN, show (6 : Int32) = nI 6 from rfl, zz_sub hM6]
      exact (nI_leI (a := 1) (by omega) (by omega)).mpr (by omega)
    have c6 : ¬ (G 0 10 = 6) := fun q => cM ((nI_eq (b := 6) (by omega) (by omega)).mp (eG.symm.trans q))
    obtain ⟨q, -, hq, rfl⟩ := zz_rng (a := 0) (b := 69) (by omega) (by omega) d1.1 d1.2
    obtain ⟨c, -, hc4, rfl⟩ := zz_rng (a := 0) (b := 4000) (by omega) (by omega) d2.1 d2.2
    obtain ⟨d, hd1, hd, rfl⟩ := zz_rng (a := 1) (b := 999) (by omega) (by omega) c3.1 c3.2
    have key : ∀ q : Fin 70, nI q.1 / 10 = nI (q.1 / 10) ∧ nI q.1 - nI q.1 / 10 * 10 = nI (q.1 % 10) := by decide +kernel
    obtain ⟨k1, k2⟩ := key ⟨q, by omega⟩
    have k1 : nI q / 10 = nI (q / 10) := k1
    have k2 : nI q - nI q / 10 * 10 = nI (q % 10) := k2
    have e1 : (N 1).toNatClampNeg = M := by rw [eN, nI_clamp (by omega)]
    have t1 : N 1 + 1 = nI (M + 1) := by rw [eN, nI_succ]
    have e0 : N 1 + 1 - 1 = nI M := by rw [t1]; exact nI_pred M
    rw [show s_thing Z N F (nI q) (nI c) (nI d) = (nI M, Z, (upd (upd (upd (upd N 1 (nI (M + 1))) 2 (nI (M + 1))) 3 (nI (M + 1))) 4 (nI (M + 1))), (va_up (va_up (va_up (va_up F 1 (upd (F 1) M (nI (q / 10)))) 2 (upd (F 2) M (nI (q % 10)))) 3 (upd (F 3) M (nI c))) 4 (upd (F 4) M (nI d)))) from ((if_neg c1).trans ((if_neg c2).trans ((if_neg n4).trans ((if_pos c3.2).trans (if_pos c5))))).trans (by rw [hT.1, hT.2.1, hT.2.2, k2, k1, e0, e1, t1])] at hc
    rw [show s_mthing Zm G (nI q) (nI c) (nI d) = (nI M, Zm, va_up G 0 (zz_th (G 0) M (nI (q / 10)) (nI (q % 10)) (nI c) (nI d))) from ((if_pos d1).trans ((if_pos d2).trans ((if_pos c3).trans (if_neg c6)))).trans (by rw [eM, k2, k1, px_up_up, px_up_up, px_up_up, px_up_up, eG]; rfl)] at hm
    exact px_st_of (c := True) hc (by decide) hm (by decide) (h.add (by omega) eG (by omega) (by omega) hc4 hd1 hd) (fun _ => rfl)
