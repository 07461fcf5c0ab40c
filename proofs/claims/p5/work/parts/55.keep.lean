/-! tell, check, image, restore -/
theorem px_cw.upd {N : Nat → Int32} (h : px_cw N) {q : Nat} (h0 : q ≠ 0) (h9 : q ≠ 9) (h18 : q ≠ 18) {x : Int32} (hx : 0 ≤ x ∧ x.toInt ≤ px_lim q) : px_cw (upd N q x) := by
  refine ⟨(px_upd_ne N x (by omega)).trans h.1, (px_upd_ne N x (by omega)).trans h.2.1, (px_upd_ne N x (by omega)).trans h.2.2.1, fun j hj => ?_⟩
  by_cases c : j = q
  · subst c; rw [px_upd_self]; exact hx
  · rw [px_upd_ne N x c]; exact h.2.2.2 j hj
theorem px_lim_n {n L : Nat} (hn : n ≤ L) (hL : L ≤ 60) : 0 ≤ nI n ∧ (nI n).toInt ≤ (L : Int) := ⟨nI_pos' (by omega), by rw [nI_toInt (by omega)]; omega⟩
theorem RR.W {Z N Zm : Nat → Int32} {F G : Nat → Nat → Int32} (h : RR Z N F Zm G) : ∃ W : Nat, W ≤ 24 ∧ G 0 9 = nI W ∧ N 8 = nI W := by
  obtain ⟨-, ⟨-, -, ⟨W, w1, w2⟩, -⟩, ⟨-, -, ⟨-, a4⟩, -⟩, -⟩ := h
  exact ⟨W, w1, w2, a4.trans w2⟩
theorem RR.P {Z N Zm : Nat → Int32} {F G : Nat → Nat → Int32} (h : RR Z N F Zm G) : ∃ P : Nat, P ≤ 60 ∧ G 0 8 = nI P ∧ N 5 = nI P := by
  obtain ⟨-, ⟨-, ⟨P, w1, w2⟩, -⟩, ⟨-, -, ⟨a3, -⟩, -⟩, -⟩ := h
  exact ⟨P, w1, w2, a3.trans w2⟩
/-- the reference's row in order again, its wall and THINGS unchanged -/
theorem g_row_hi {f g : Nat → Int32} (h : g_row_ok f) (he : ∀ j : Nat, j < 8 ∨ (10 ≤ j ∧ j < 286) → g j = f j) (hP : ∃ P : Nat, P ≤ 60 ∧ g 8 = nI P) (hW : ∃ W : Nat, W ≤ 24 ∧ g 9 = nI W) : g_row_ok g := by
  obtain ⟨w0, -, -, ⟨M, m1, m2, m3⟩, t0, t1⟩ := h
  have ht := r_txf_congr (g := g) (fun j h1 h2 => he j (by omega)) t0 t1
  refine ⟨g_wall_congr w0 (fun j hj => he j (by omega)), hP, hW, ⟨M, m1, (he 10 (by omega)).trans m2, fun n hn => ?_⟩, ht.1, ht.2⟩
  rw [he _ (by omega), he _ (by omega), he _ (by omega), he _ (by omega)]
  exact m3 n hn
theorem st_tell (v : Int32) : px_st 82 203 [.int v] True := by
  intro Z N F Zm G h
  obtain ⟨W, hW, eG, eN⟩ := h.W
  have hc := kc_tell (Z := Z) (F := F) h.1 v
  have hm := kc_mtell (Z := Zm) (F := G) eG hW v
  by_cases c : W = 24
  · subst c
    rw [show s_tell Z N F v = (-1000000000 - 4, Z, N, F) from if_neg (by rw [eN]; decide)] at hc
    rw [show s_mtell Zm G v = (-1000000000 - 4, Zm, G) from if_pos eG] at hm
    exact px_st_of (c := True) hc (by decide) hm (by decide) h (fun _ => rfl)
  · have e9' : ∀ x : Nat → Int32, x = G 0 → (x 9).toNatClampNeg = W := fun x hx => by rw [hx, eG, nI_clamp (by omega)]
    have c1 : (1 : Int32) ≤ 24 - N 8 := by
      rw [eN, show (24 : Int32) = nI 24 from rfl, zz_sub hW]
      exact (nI_leI (a := 1) (by omega) (by omega)).mpr (by omega)
    have c2 : ¬ (G 0 9 = 24) := fun q => c ((nI_eq (b := 24) (by omega) (by omega)).mp (eG.symm.trans q))
    have e9 : upd (G 0) (346 + (G 0 9).toNatClampNeg) v 9 = G 0 9 := px_upd_ne _ _ (by omega)
    rw [show s_tell Z N F v = (N 8 + 1, Z, upd N 8 (N 8 + 1), va_up F 8 (upd (F 8) (N 8).toNatClampNeg v)) from if_pos c1] at hc
    rw [show s_mtell Zm G v = (G 0 9 + 1, Zm, va_up G 0 (upd (upd (G 0) (346 + (G 0 9).toNatClampNeg) v) 9 (G 0 9 + 1))) from by
      rw [show s_mtell Zm G v = (upd (upd (G 0) (346 + (G 0 9).toNatClampNeg) v) 9 (upd (G 0) (346 + (G 0 9).toNatClampNeg) v 9 + 1) 9, Zm, va_up (va_up G 0 (upd (G 0) (346 + (G 0 9).toNatClampNeg) v)) 0 (upd (upd (G 0) (346 + (G 0 9).toNatClampNeg) v) 9 (upd (G 0) (346 + (G 0 9).toNatClampNeg) v 9 + 1))) from if_neg c2, px_up_up, e9, px_upd_self]] at hm
    rw [eN, eG, nI_clamp (by omega), show nI W + 1 = nI (W + 1) from (nI_succ W).symm] at *
    have heq : ∀ j : Nat, j ≠ 9 → j ≠ 346 + W → upd (upd (G 0) (346 + W) v) 9 (nI (W + 1)) j = G 0 j := fun j h1 h2 => by rw [px_upd_ne _ _ h1, px_upd_ne _ _ h2]
    refine px_st_of (c := True) hc (by decide) hm (by decide) ?_ (fun _ => rfl)
    refine RR.now h (fun _ _ => rfl) (fun j hj => px_upd_ne N _ (by omega)) (fun j hj => px_up_ne F _ (by omega)) (h.1.upd (by decide) (by decide) (by decide) (px_lim_n (L := 24) (by omega) (by omega))) ?_ ?_ (h.tt.cg ⟨rfl, rfl⟩ ⟨rfl, rfl⟩ (fun j hj => by obtain ⟨P, p1, p2, -⟩ := h.P; rw [p2, nI_clamp (by omega)] at hj; exact heq j (by omega) (by omega)))
    · obtain ⟨P, p1, p2, -⟩ := h.P
      exact g_row_hi h.2.1 (fun j hj => heq j (by omega) (by omega)) ⟨P, p1, (heq 8 (by omega) (by omega)).trans p2⟩ ⟨W + 1, by omega, rfl⟩
    · obtain ⟨a1, a2, ⟨a3, a4⟩, ⟨a5, a6, a7, a8⟩, a9, a10, a11⟩ := h.2.2.1
      refine ⟨fun i hi => (a1 i hi).trans (heq i (by omega) (by omega)).symm, a2.trans (heq 7 (by omega) (by omega)).symm, ⟨a3.trans (heq 8 (by omega) (by omega)).symm, rfl⟩, ?_, ?_, ?_, ?_⟩
      · rw [heq 10 (by omega) (by omega)]; exact ⟨a5, a6, a7, a8⟩
      · rw [heq 10 (by omega) (by omega)]
        intro n hn
        have h6 := h.M.2.1
        rw [heq _ (by omega) (by omega), heq _ (by omega) (by omega), heq _ (by omega) (by omega), heq _ (by omega) (by omega)]
        exact a9 n hn
      · rw [heq 8 (by omega) (by omega)]
        intro i hi
        obtain ⟨P, p1, p2, -⟩ := h.P
        have : i < P := by rw [p2, nI_clamp (by omega)] at hi; exact hi
        rw [heq _ (by omega) (by omega)]
        exact a10 i hi
      · intro i hi
        have hi2 : i < W + 1 := by
          have e : upd (upd (G 0) (346 + W) v) 9 (nI (W + 1)) 9 = nI (W + 1) := rfl
          rw [e, nI_clamp (by omega)] at hi
          exact hi
        show va_up F 8 (upd (F 8) W v) 8 i = _
        rw [px_up_self]
        by_cases ci : i = W
        · subst ci
          rw [px_upd_self]
          exact ((px_upd_ne (k := 9) (j := 346 + i) (upd (G 0) (346 + i) v) (nI (i + 1)) (by clear hi hi2; omega)).trans (px_upd_self _ _ _)).symm
        · rw [px_upd_ne _ _ ci]
          exact (a11 i (by rw [e9' _ rfl]; clear hi; omega)).trans (heq _ (by omega) (by omega)).symm
theorem st_check : px_st 83 204 [] True := by
  intro Z N F Zm G h
  obtain ⟨W, hW, eG, eN⟩ := h.W
  have hM := h.M
  have hc := kc_check (Z := Z) (F := F) h.1 hM.2.2.2 hM.2.1 eN hW
  have hm := kc_mcheck (Z := Zm) (F := G) hM.1 hM.2.1 eG hW
  have hm := hm.mono (d' := 3) (Nat.le_refl 3) (Q' := fun r h' => r = some (.int (s_ckr W (zz_run (s_mckp (G 0 10).toNatClampNeg (upd (G 0) 9 0)) W 0))) ∧ ∃ Z' F', px_sm Zm (va_up G 0 (upd (G 0) 9 0)) Z' F' ∧ h' = ([], px_MH Z' F')) (fun v h' q => ⟨q.1, Zm, _, px_sm.rf, q.2⟩)
  obtain ⟨a1, a2, ⟨a3, a4⟩, ⟨a5, a6, a7, a8⟩, a9, a10, a11⟩ := h.2.2.1
  have heq : ∀ j : Nat, j ≠ 9 → upd (G 0) 9 0 j = G 0 j := fun j h1 => px_upd_ne _ _ h1
  refine px_st_of (c := True) hc (by decide) hm (by decide) ?_ (fun _ => ?_)
  · show RR Z (upd N 8 0) F Zm (va_up G 0 (upd (G 0) 9 0))
    refine RR.now h (fun _ _ => rfl) (fun j hj => px_upd_ne N _ (by omega)) (fun _ _ => rfl) (h.1.upd (by decide) (by decide) (by decide) ⟨by decide, by decide⟩) ?_ ?_ (h.tt.cg ⟨rfl, rfl⟩ ⟨rfl, rfl⟩ (fun j hj => heq j (by omega)))
    · obtain ⟨P, p1, p2, -⟩ := h.P
      exact g_row_hi h.2.1 (fun j hj => heq j (by omega)) ⟨P, p1, (heq 8 (by omega)).trans p2⟩ ⟨0, by omega, rfl⟩
    · refine ⟨fun i hi => (a1 i hi).trans (heq i (by omega)).symm, a2.trans (heq 7 (by omega)).symm, ⟨a3.trans (heq 8 (by omega)).symm, rfl⟩, ?_, ?_, ?_, ?_⟩
      · rw [heq 10 (by omega)]; exact ⟨a5, a6, a7, a8⟩
      · rw [heq 10 (by omega)]
        intro n hn
        rw [heq _ (by omega), heq _ (by omega), heq _ (by omega), heq _ (by omega)]
        exact a9 n hn
      · rw [heq 8 (by omega)]
        intro i hi
        rw [heq _ (by omega)]
        exact a10 i hi
      · intro i hi
        exact absurd hi (Nat.not_lt_zero i)
  · show s_ckr W (zz_run (s_ckp (G 0 10).toNatClampNeg F) W 0) = _
    rw [zz_run_congr (q := s_mckp (G 0 10).toNatClampNeg (upd (G 0) 9 0)) W 0 (fun j h1 h2 => ?_)]
    unfold s_ckp s_mckp
    rw [heq _ (by omega), heq _ (by omega)]
    by_cases cj : j < (G 0 10).toNatClampNeg
    · have e1 := (a9 j cj).2.2.1
      have e2 := a11 j (by rw [eG, nI_clamp (by omega)]; omega)
      rw [show F 3 j = G 0 (12 + 4 * j + 2) from e1, show F 8 j = G 0 (346 + j) from e2]
      congr 1
      exact decide_eq_decide.mpr ⟨fun q => q.symm, fun q => q.symm⟩
    · rw [decide_eq_false cj]; rfl
theorem s_keepN_hi (N : Nat → Int32) {j : Nat} (hj : 18 ≤ j) : s_keepN N j = N j := by
  unfold s_keepN
  rw [px_upd_ne _ _ (by omega), px_upd_ne _ _ (by omega), px_upd_ne _ _ (by omega), px_upd_ne _ _ (by omega), px_upd_ne _ _ (by omega), px_upd_ne _ _ (by omega), px_upd_ne _ _ (by omega), px_upd_ne _ _ (by omega), px_upd_ne _ _ (by omega)]
theorem s_keepF_hi (N : Nat → Int32) (F : Nat → Nat → Int32) {j : Nat} (hj : 18 ≤ j) : s_keepF N F j = F j := by
  unfold s_keepF
  rw [px_up_ne _ _ (by omega), px_up_ne _ _ (by omega), px_up_ne _ _ (by omega), px_up_ne _ _ (by omega), px_up_ne _ _ (by omega), px_up_ne _ _ (by omega), px_up_ne _ _ (by omega), px_up_ne _ _ (by omega), px_up_ne _ _ (by omega)]
theorem s_takeN_hi (N : Nat → Int32) {j : Nat} (hj : 9 ≤ j) : s_takeN N j = N j := by
  unfold s_takeN
  rw [px_upd_ne _ _ (by omega), px_upd_ne _ _ (by omega), px_upd_ne _ _ (by omega), px_upd_ne _ _ (by omega), px_upd_ne _ _ (by omega), px_upd_ne _ _ (by omega), px_upd_ne _ _ (by omega), px_upd_ne _ _ (by omega), px_upd_ne _ _ (by omega)]
theorem s_takeF_hi (N : Nat → Int32) (F : Nat → Nat → Int32) {j : Nat} (hj : 9 ≤ j) : s_takeF N F j = F j := by
  unfold s_takeF
  rw [px_up_ne _ _ (by omega), px_up_ne _ _ (by omega), px_up_ne _ _ (by omega), px_up_ne _ _ (by omega), px_up_ne _ _ (by omega), px_up_ne _ _ (by omega), px_up_ne _ _ (by omega), px_up_ne _ _ (by omega), px_up_ne _ _ (by omega)]
theorem s_keepN_cw {N : Nat → Int32} (h : px_cw N) : px_cw (s_keepN N) := by
  refine ⟨h.1, h.1, h.2.2.1, fun q hq => ?_⟩
  rcases (show q = 0 ∨ q = 1 ∨ q = 2 ∨ q = 3 ∨ q = 4 ∨ q = 5 ∨ q = 6 ∨ q = 7 ∨ q = 8 ∨ q = 9 ∨ q = 10 ∨ q = 11 ∨ q = 12 ∨ q = 13 ∨ q = 14 ∨ q = 15 ∨ q = 16 ∨ q = 17 ∨ 18 ≤ q by omega) with rfl | rfl | rfl | rfl | rfl | rfl | rfl | rfl | rfl | rfl | rfl | rfl | rfl | rfl | rfl | rfl | rfl | rfl | hh
  · exact h.2.2.2 0 (by omega)
  · exact h.2.2.2 1 (by omega)
  · exact h.2.2.2 2 (by omega)
  · exact h.2.2.2 3 (by omega)
  · exact h.2.2.2 4 (by omega)
  · exact h.2.2.2 5 (by omega)
  · exact h.2.2.2 6 (by omega)
  · exact h.2.2.2 7 (by omega)
  · exact h.2.2.2 8 (by omega)
  · exact h.2.2.2 0 (by omega)
  · exact h.2.2.2 1 (by omega)
  · exact h.2.2.2 2 (by omega)
  · exact h.2.2.2 3 (by omega)
  · exact h.2.2.2 4 (by omega)
  · exact h.2.2.2 5 (by omega)
  · exact h.2.2.2 6 (by omega)
  · exact h.2.2.2 7 (by omega)
  · exact h.2.2.2 8 (by omega)
  · rw [s_keepN_hi N hh]; exact h.2.2.2 q hq
theorem s_takeN_cw {N : Nat → Int32} (h : px_cw N) : px_cw (s_takeN N) := by
  refine ⟨h.2.1, h.2.1, h.2.2.1, fun q hq => ?_⟩
  rcases (show q = 0 ∨ q = 1 ∨ q = 2 ∨ q = 3 ∨ q = 4 ∨ q = 5 ∨ q = 6 ∨ q = 7 ∨ q = 8 ∨ 9 ≤ q by omega) with rfl | rfl | rfl | rfl | rfl | rfl | rfl | rfl | rfl | hh
  · exact h.2.2.2 9 (by omega)
  · exact h.2.2.2 10 (by omega)
  · exact h.2.2.2 11 (by omega)
  · exact h.2.2.2 12 (by omega)
  · exact h.2.2.2 13 (by omega)
  · exact h.2.2.2 14 (by omega)
  · exact h.2.2.2 15 (by omega)
  · exact h.2.2.2 16 (by omega)
  · exact h.2.2.2 17 (by omega)
  · rw [s_takeN_hi N hh]; exact h.2.2.2 q hq
theorem g_row_congr {f g : Nat → Int32} (h : g_row_ok f) (he : ∀ j : Nat, j < 370 → g j = f j) : g_row_ok g := by
  obtain ⟨w0, ⟨P, p1, p2⟩, ⟨W, w1, w2⟩, ⟨M, m1, m2, m3⟩, t0, t1⟩ := h
  have ht := r_txf_congr (g := g) (fun j h1 h2 => he j (by omega)) t0 t1
  refine ⟨g_wall_congr w0 (fun j hj => he j (by omega)), ⟨P, p1, (he 8 (by omega)).trans p2⟩, ⟨W, w1, (he 9 (by omega)).trans w2⟩, ⟨M, m1, (he 10 (by omega)).trans m2, fun n hn => ?_⟩, ht.1, ht.2⟩
  rw [he _ (by omega), he _ (by omega), he _ (by omega), he _ (by omega)]
  exact m3 n hn
/-- rows copied from one place to the other, on both sides -/
theorem g_rel_copy {q q2 : Nat} {z : Int32} {N N' : Nat → Int32} {F F' : Nat → Nat → Int32} {f g : Nat → Int32} (h : g_rel q z N F f) (hf : g_row_ok f) (he : ∀ j : Nat, j < 370 → g j = f j) (hN0 : N q = 7) (hN : ∀ i : Nat, i ≤ 8 → N' (q2 + i) = N (q + i)) (hF : ∀ i : Nat, i ≤ 8 → ∀ j : Nat, j < (N (q + i)).toNatClampNeg → F' (q2 + i) j = F (q + i) j) : g_rel q2 z N' F' g := by
  obtain ⟨-, ⟨P, p1, p2⟩, ⟨W, w1, w2⟩, ⟨M, m1, m2, m3⟩, t0, t1⟩ := hf
  obtain ⟨a1, a2, ⟨a3, a4⟩, ⟨a5, a6, a7, a8⟩, a9, a10, a11⟩ := h
  have eM : (f 10).toNatClampNeg = M := by rw [m2, nI_clamp (by omega)]
  have eP : (f 8).toNatClampNeg = P := by rw [p2, nI_clamp (by omega)]
  have eW : (f 9).toNatClampNeg = W := by rw [w2, nI_clamp (by omega)]
  refine ⟨fun i hi => ?_, a2.trans (he 7 (by omega)).symm, ⟨?_, ?_⟩, ⟨?_, ?_, ?_, ?_⟩, ?_, ?_, ?_⟩
  · have e := hF 0 (by omega) i (by rw [Nat.add_zero, hN0]; exact hi)
    rw [Nat.add_zero, Nat.add_zero] at e
    rw [e, he i (by omega)]; exact a1 i hi
  · rw [hN 5 (by omega), a3, he 8 (by omega)]
  · rw [hN 8 (by omega), a4, he 9 (by omega)]
  · rw [hN 1 (by omega), a5, he 10 (by omega)]
  · rw [hN 2 (by omega), a6, he 10 (by omega)]
  · rw [hN 3 (by omega), a7, he 10 (by omega)]
  · rw [hN 4 (by omega), a8, he 10 (by omega)]
  · rw [he 10 (by omega), eM]
    rw [eM] at a9
    intro n hn
    rw [he _ (by omega), he _ (by omega), he _ (by omega), he _ (by omega), hF 1 (by omega) n (by rw [a5, eM]; exact hn), hF 2 (by omega) n (by rw [a6, eM]; exact hn), hF 3 (by omega) n (by rw [a7, eM]; exact hn), hF 4 (by omega) n (by rw [a8, eM]; exact hn)]
    exact a9 n hn
  · rw [he 8 (by omega), eP]
    rw [eP] at a10
    intro i hi
    rw [he _ (by omega), hF 5 (by omega) i (by rw [a3, eP]; exact hi)]
    exact a10 i hi
  · rw [he 9 (by omega), eW]
    rw [eW] at a11
    intro i hi
    rw [he _ (by omega), hF 8 (by omega) i (by rw [a4, eW]; exact hi)]
    exact a11 i hi
theorem px_ov_lt {f g : Nat → Int32} {n j : Nat} (h : j < n) : px_ov f g n j = f j := if_pos h
theorem zz_pl_in {f g : Nat → Int32} {j : Nat} (h : j < 370) : zz_pl f g 0 370 j = f j := by
  unfold zz_pl
  rw [if_pos (by omega), Nat.sub_zero]
theorem st_image : px_st 80 201 [] True := by
  intro Z N F Zm G h
  have hc := kc_image (Z := Z) (F := F) h.1
  have hm := kc_mimage (Z := Zm) (F := G)
  refine px_st_of (c := True) hc (by decide) hm (by decide) ?_ (fun _ => congrArg (fun z : Int32 => z + 1) h.2.2.2.1)
  show RR (upd (upd Z 1 (Z 0)) 21 (Z 21 + 1)) (s_keepN N) (s_keepF N F) (upd Zm 0 (Zm 0 + 1)) (va_up G 1 (zz_pl (G 0) (G 1) 0 370))
  obtain ⟨b0, b1, b2, b3, b4, b5, b6, b7, b8⟩ := h
  refine ⟨s_keepN_cw b0, b1, b2, congrArg (fun z : Int32 => z + 1) b3, fun _ => ⟨g_row_congr b1 (fun j hj => zz_pl_in hj), ?_⟩, ?_, b6, b7, b8.1, b8.2.1.cg ⟨rfl, rfl⟩ ⟨rfl, rfl⟩ (fun _ _ => rfl), fun _ => b8.2.1.copy (by obtain ⟨P, p1, p2⟩ := b1.2.1; rw [p2, nI_clamp (by omega)]; exact p1) (fun j hj => zz_pl_in hj) rfl rfl (fun j hj => px_ov_lt hj) (fun j hj => px_ov_lt hj)⟩
  · refine g_rel_copy b2 b1 (fun j hj => zz_pl_in hj) b0.1 (fun i hi => ?_) (fun i hi j hj => ?_)
    · rcases (show i = 0 ∨ i = 1 ∨ i = 2 ∨ i = 3 ∨ i = 4 ∨ i = 5 ∨ i = 6 ∨ i = 7 ∨ i = 8 by omega) with rfl | rfl | rfl | rfl | rfl | rfl | rfl | rfl | rfl <;> rfl
    · rcases (show i = 0 ∨ i = 1 ∨ i = 2 ∨ i = 3 ∨ i = 4 ∨ i = 5 ∨ i = 6 ∨ i = 7 ∨ i = 8 by omega) with rfl | rfl | rfl | rfl | rfl | rfl | rfl | rfl | rfl <;> exact px_ov_lt hj
  · refine g_sh_far b5 (fun j h1 h2 => ?_) (fun j h1 h2 => s_keepN_hi N (by omega)) (fun j h1 h2 => s_keepF_hi N F (by omega)) ⟨rfl, rfl, rfl⟩
    rw [px_upd_ne _ _ (by omega), px_upd_ne _ _ (by omega)]
theorem st_restore : px_st 81 202 [] True := by
  intro Z N F Zm G h
  have hc := kc_restore (Z := Z) (F := F) h.1
  have hm := kc_mrestore (Z := Zm) (F := G)
  have e0 := h.2.2.2.1
  by_cases c : Z 21 = 0
  · rw [show s_restore Z N F = (-1000000000 - 2, Z, N, F) from if_pos c] at hc
    rw [show s_mrestore Zm G = (-1000000000 - 2, Zm, G) from if_pos (by rw [← e0]; exact c)] at hm
    exact px_st_of (c := True) hc (by decide) hm (by decide) h (fun _ => rfl)
  · rw [show s_restore Z N F = (s_takeF N F 0 6, upd Z 0 (Z 1), s_takeN N, s_takeF N F) from if_neg c] at hc
    rw [show s_mrestore Zm G = (zz_pl (G 1) (G 0) 0 370 6, Zm, va_up G 0 (zz_pl (G 1) (G 0) 0 370)) from if_neg (by rw [← e0]; exact c)] at hm
    obtain ⟨k1, k2⟩ := h.2.2.2.2.1 c
    have hr : g_rel 0 (Z 1) (s_takeN N) (s_takeF N F) (zz_pl (G 1) (G 0) 0 370) := by
      refine g_rel_copy k2 k1 (fun j hj => zz_pl_in hj) h.1.2.1 (fun i hi => ?_) (fun i hi j hj => ?_)
      · rcases (show i = 0 ∨ i = 1 ∨ i = 2 ∨ i = 3 ∨ i = 4 ∨ i = 5 ∨ i = 6 ∨ i = 7 ∨ i = 8 by omega) with rfl | rfl | rfl | rfl | rfl | rfl | rfl | rfl | rfl <;> rfl
      · rcases (show i = 0 ∨ i = 1 ∨ i = 2 ∨ i = 3 ∨ i = 4 ∨ i = 5 ∨ i = 6 ∨ i = 7 ∨ i = 8 by omega) with rfl | rfl | rfl | rfl | rfl | rfl | rfl | rfl | rfl <;> exact px_ov_lt hj
    refine px_st_of (c := True) hc (by decide) hm (by decide) ?_ (fun _ => hr.1 6 (by omega))
    show RR (upd Z 0 (Z 1)) (s_takeN N) (s_takeF N F) Zm (va_up G 0 (zz_pl (G 1) (G 0) 0 370))
    exact RR.now h (fun j hj => px_upd_ne Z _ hj) (fun j hj => s_takeN_hi N hj) (fun j hj => s_takeF_hi N F hj) (s_takeN_cw h.1) (g_row_congr k1 (fun j hj => zz_pl_in hj)) hr ((h.tk c).copy (by obtain ⟨P, p1, p2⟩ := k1.2.1; rw [p2, nI_clamp (by omega)]; exact p1) (fun j hj => zz_pl_in hj) rfl rfl (fun j hj => px_ov_lt hj) (fun j hj => px_ov_lt hj))
