theorem zz_fr_in {g f : Nat → Int32} {n j : Nat} (h : j < n) : zz_fr g f n (12 + 4 * j + 2) = g j := by
  unfold zz_fr
  rw [if_pos (by omega), show (12 + 4 * j + 2 - 12) / 4 = j by omega]
theorem zz_fr_out {g f : Nat → Int32} {n j : Nat} (h : ¬ (12 ≤ j ∧ j < 12 + 4 * n ∧ (j - 12) % 4 = 2)) : zz_fr g f n j = f j := if_neg h
theorem st_places (sheet : Int32) : px_st 78 199 [.int sheet] True := by
  intro Z N F Zm G h
  rcases zz_sheet sheet with c | ⟨k, hk, rfl⟩
  · exact px_st_of (c := True) (kc_placesB h.1 sheet c) (by decide) (kc_mplacesB sheet c) (by decide) h (fun _ => rfl)
  have hS := h.2.2.2.2.2.1
  obtain ⟨a1, a2, ⟨S, s1, s2⟩, a4⟩ := hS k hk
  obtain ⟨S0, u1, u2⟩ := h.SN hk
  have hM := h.M
  have hc := kc_places (Z := Z) (F := F) h.1 k hk u1 u2 hM.2.2.2 hM.2.1
  have hm := kc_mplaces (Z := Zm) (F := G) k hk s2 s1 hM.1 hM.2.1
  by_cases c0 : G 11 k = 0
  · rw [show s_places S0 (G 0 10).toNatClampNeg Z N F k = (-1000000000 - 2, Z, N, F) from if_pos (a1.trans c0)] at hc
    rw [show s_mplaces S (G 0 10).toNatClampNeg Zm G k = (-1000000000 - 2, Zm, G) from if_neg (by unfold s_lacks; rw [if_pos c0]; decide)] at hm
    exact px_st_of (c := True) hc (by decide) hm (by decide) h (fun _ => rfl)
  have z0 : ¬ (Z (2 + k) = 0) := fun q => c0 (a1.symm.trans q)
  obtain ⟨n1, n2⟩ := a4 c0
  have eS : S0 = S := (nI_eq (by omega) (by omega)).mp (u1.symm.trans (n1.trans s2))
  subst eS
  rw [s2, nI_clamp (by omega)] at n2
  obtain ⟨M, eM⟩ : ∃ M : Nat, (G 0 10).toNatClampNeg = M := ⟨_, rfl⟩
  have hM6 : M ≤ 6 := by rw [← eM]; exact hM.2.1
  rw [eM] at hc hm
  have er : zz_run (s_plp F k) (min S0 M) 0 = zz_run (s_mplp G k) (min S0 M) 0 := by
    refine zz_run_congr _ _ (fun j h1 h2 => ?_)
    unfold s_plp s_mplp
    rw [n2 j (by omega)]
    exact decide_eq_decide.mpr px_out
  have hl := zz_run_le (s_mplp G k) (min S0 M) 0
  have hp := zz_run_lt (s_mplp G k) (min S0 M) 0
  rw [show s_places S0 M Z N F k = (nI (zz_run (s_plp F k) (min S0 M) 0), Z, N, va_up F 3 (zz_pl (F (19 + k)) (F 3) 0 (zz_run (s_plp F k) (min S0 M) 0))) from if_neg z0, er] at hc
  rw [show s_mplaces S0 M Zm G k = (nI (zz_run (s_mplp G k) (min S0 M) 0), Zm, va_up G 0 (zz_fr (fun t => G 13 (24 * k + t)) (G 0) (zz_run (s_mplp G k) (min S0 M) 0))) from if_pos (by unfold s_lacks; rw [if_neg c0])] at hm
  generalize zz_run (s_mplp G k) (min S0 M) 0 = r at hc hm hl hp
  refine px_st_of (c := True) hc (by decide) hm (by decide) ?_ (fun _ => rfl)
  refine h.things (fun j hj => zz_fr_out (by omega)) (fun j hj => px_up_ne F _ (by omega)) (fun n hn => ?_)
  rw [eM] at hn
  have hh := h.th (n := n) (by omega)
  have f0 : zz_fr (fun t => G 13 (24 * k + t)) (G 0) r (12 + 4 * n + 0) = G 0 (12 + 4 * n + 0) := zz_fr_out (by omega)
  have f1 : zz_fr (fun t => G 13 (24 * k + t)) (G 0) r (12 + 4 * n + 1) = G 0 (12 + 4 * n + 1) := zz_fr_out (by omega)
  have f3 : zz_fr (fun t => G 13 (24 * k + t)) (G 0) r (12 + 4 * n + 3) = G 0 (12 + 4 * n + 3) := zz_fr_out (by omega)
  show (_ ∧ _ ∧ _ ∧ _) ∧ F 1 n = _ ∧ F 2 n = _ ∧ zz_pl (F (19 + k)) (F 3) 0 r n = _ ∧ F 4 n = _
  rw [f0, f1, f3]
  by_cases cn : n < r
  · have f2 : zz_fr (fun t => G 13 (24 * k + t)) (G 0) r (12 + 4 * n + 2) = G 13 (24 * k + n) := zz_fr_in cn
    have hv := of_decide_eq_true (hp n (by omega) cn)
    obtain ⟨a, -, ha, ea⟩ := zz_rng (a := 0) (b := 4000) (by omega) (by omega) hv.1 hv.2
    rw [f2]
    refine ⟨⟨hh.1.1, hh.1.2.1, ⟨a, ha, ea⟩, hh.1.2.2.2⟩, hh.2.1, hh.2.2.1, ?_, hh.2.2.2.2⟩
    exact (if_pos (by omega)).trans (n2 n (by omega))
  · have f2 : zz_fr (fun t => G 13 (24 * k + t)) (G 0) r (12 + 4 * n + 2) = G 0 (12 + 4 * n + 2) := zz_fr_out (by omega)
    rw [f2]
    refine ⟨hh.1, hh.2.1, hh.2.2.1, ?_, hh.2.2.2.2⟩
    exact (if_neg (by omega)).trans hh.2.2.2.1
