theorem g_rel_cg {q : Nat} {z : Int32} {N N' : Nat → Int32} {F F' : Nat → Nat → Int32} {f : Nat → Int32} (h : g_rel q z N F f) (eN : ∀ i : Nat, i ≤ 8 → N' (q + i) = N (q + i)) (eF : ∀ i : Nat, i ≤ 8 → F' (q + i) = F (q + i)) : g_rel q z N' F' f := by
  have e0 : F' q = F q := eF 0 (by omega)
  rw [g_rel, e0, eN 5 (by omega), eN 8 (by omega), eN 1 (by omega), eN 2 (by omega), eN 3 (by omega), eN 4 (by omega), eF 1 (by omega), eF 2 (by omega), eF 3 (by omega), eF 4 (by omega), eF 5 (by omega), eF 8 (by omega)]
  exact h
/-- only SHEETS change -/
theorem RR.shs {Z N Z' N' Zm : Nat → Int32} {F F' G G' : Nat → Nat → Int32} (h : RR Z N F Zm G) (hZ : ∀ j : Nat, ¬ (2 ≤ j ∧ j ≤ 5) → Z' j = Z j) (hN : ∀ j : Nat, ¬ (19 ≤ j ∧ j ≤ 22) → N' j = N j) (hF : ∀ j : Nat, ¬ (19 ≤ j ∧ j ≤ 22) → F' j = F j) (hG : ∀ j : Nat, j < 5 → G' j = G j) (hw : px_cw N') (hs : g_sh Z' N' F' G') : RR Z' N' F' Zm G' := by
  obtain ⟨b0, b1, b2, b3, b4, b5, b6, b7, b8⟩ := h
  rw [RR, hG 0 (by omega), hG 1 (by omega), hG 3 (by omega), hG 4 (by omega), hZ 0 (by omega), hZ 1 (by omega), hZ 21 (by omega)]
  exact ⟨hw, b1, g_rel_cg b2 (fun i hi => hN _ (by omega)) (fun i hi => hF _ (by omega)), b3, fun hz => ⟨(b4 hz).1, g_rel_cg (b4 hz).2 (fun i hi => hN _ (by omega)) (fun i hi => hF _ (by omega))⟩, hs, b6, b7, b8.1, b8.2.cg (hZ 21 (by omega)) (fun q hq => hN q (by omega)) (fun q hq => hF q (by omega)) (fun j _ => congrFun (hG 0 (by omega)) j) (hG 1 (by omega))⟩
theorem g_sh_k {Z N Z' N' : Nat → Int32} {F F' G G' : Nat → Nat → Int32} {k : Nat} (hk : k < 4) (h : g_sh Z N F G) (hZ : ∀ j : Nat, j ≠ 2 + k → Z' j = Z j) (hN : ∀ j : Nat, j ≠ 19 + k → N' j = N j) (hF : ∀ j : Nat, j ≠ 19 + k → F' j = F j) (h11 : ∀ j : Nat, j ≠ k → G' 11 j = G 11 j) (h12 : ∀ j : Nat, j ≠ k → G' 12 j = G 12 j) (h13 : ∀ j : Nat, ¬ (24 * k ≤ j ∧ j < 24 * k + 24) → G' 13 j = G 13 j) (hn : Z' (2 + k) = G' 11 k ∧ (G' 11 k = 0 ∨ G' 11 k = 8 ∨ G' 11 k = 16 ∨ G' 11 k = 32) ∧ (∃ S : Nat, S ≤ 24 ∧ G' 12 k = nI S) ∧ (¬ (G' 11 k = 0) → N' (19 + k) = G' 12 k ∧ ∀ i : Nat, i < (G' 12 k).toNatClampNeg → F' (19 + k) i = G' 13 (24 * k + i))) : g_sh Z' N' F' G' := by
  intro k2 hk2
  by_cases c : k2 = k
  · subst c; exact hn
  · obtain ⟨a1, a2, ⟨S, s1, s2⟩, a4⟩ := h k2 hk2
    rw [hZ _ (by omega), hN _ (by omega), hF _ (by omega), h11 _ c, h12 _ c]
    refine ⟨a1, a2, ⟨S, s1, s2⟩, fun q => ⟨(a4 q).1, fun i hi => ?_⟩⟩
    have hi2 : i < S := by rw [s2, nI_clamp (by omega)] at hi; exact hi
    rw [h13 _ (by omega)]
    exact (a4 q).2 i hi
theorem st_sheet (sheet bits n : Int32) : px_st 75 195 [.int sheet, .int bits, .int n] True := by
  intro Z N F Zm G h
  rcases zz_sheet sheet with c | ⟨k, hk, rfl⟩
  · exact px_st_of (c := True) (kc_sheetB h.1 sheet bits n c) (by decide) (kc_msheetB sheet bits n c) (by decide) h (fun _ => rfl)
  have hc := kc_sheet (Z := Z) (F := F) h.1 k hk bits n
  have hm := kc_msheet (Z := Zm) (F := G) k bits n hk
  have eL : px_lim (19 + k) = 24 := px_lim19 hk
  have hcw : px_cw (upd N (19 + k) (Int32.ofNat (px_fz n (px_lim (19 + k))))) := by
    refine h.1.upd (by omega) (by omega) (by omega) ?_
    rw [eL]
    exact px_lim_n (n := px_fz n 24) (by unfold px_fz; omega) (by omega)
  have hS := h.2.2.2.2.2.1
  by_cases c0 : bits = 0
  · subst c0
    rw [show s_sheet Z N F k 0 n = (1, (upd Z (2 + k) 0), (upd N (19 + k) (Int32.ofNat (px_fz n (px_lim (19 + k))))), (va_up F (19 + k) (px_zf (F (19 + k)) 0 (px_fz n (px_lim (19 + k)))))) from rfl] at hc
    rw [show s_msheet Zm G k 0 n = (1, Zm, (va_up (va_up (va_up G 11 (upd (G 11) k 0)) 12 (upd (G 12) k 0)) 13 (zz_pl (fun _ => 0) (G 13) (24 * k) 24))) from rfl] at hm
    refine px_st_of (c := True) hc (by decide) hm (by decide) ?_ (fun _ => rfl)
    refine h.shs (fun j hj => px_upd_ne _ _ (by omega)) (fun j hj => px_upd_ne _ _ (by omega)) (fun j hj => px_up_ne _ _ (by omega)) (fun j hj => ?_) hcw ?_
    · show va_up (va_up (va_up G 11 _) 12 _) 13 _ j = _
      rw [px_up_ne _ _ (by omega), px_up_ne _ _ (by omega), px_up_ne _ _ (by omega)]
    · refine g_sh_k hk hS (fun j hj => px_upd_ne _ _ hj) (fun j hj => px_upd_ne _ _ hj) (fun j hj => px_up_ne _ _ hj) (fun j hj => px_upd_ne (G 11) _ hj) (fun j hj => px_upd_ne (G 12) _ hj) (fun j hj => if_neg hj) ⟨?_, Or.inl (px_upd_self (G 11) k 0), ⟨0, by omega, px_upd_self (G 12) k 0⟩, fun q => (q (px_upd_self (G 11) k 0)).elim⟩
      exact (px_upd_self _ _ _).trans (px_upd_self (G 11) k 0).symm
  by_cases cb : bits = 8 ∨ bits = 16 ∨ bits = 32
  · by_cases n1 : 0 ≤ n
    · by_cases n2 : n ≤ 24
      · obtain ⟨m, -, hm24, rfl⟩ := zz_rng (a := 0) (b := 24) (by omega) (by omega) n1 n2
        have e1 : s_sheet Z N F k bits (nI m) = (1, (upd Z (2 + k) bits), (upd N (19 + k) (Int32.ofNat (px_fz (nI m) (px_lim (19 + k))))), (va_up F (19 + k) (px_zf (F (19 + k)) 0 (px_fz (nI m) (px_lim (19 + k)))))) := by
          unfold s_sheet
          rcases cb with q | q | q <;> subst q <;> simp [n1, n2]
        have e2 : s_msheet Zm G k bits (nI m) = (1, Zm, (va_up (va_up (va_up G 11 (upd (G 11) k bits)) 12 (upd (G 12) k (nI m))) 13 (zz_pl (fun _ => 0) (G 13) (24 * k) 24))) := by
          unfold s_msheet
          rcases cb with q | q | q <;> subst q <;> simp [n1, n2]
        rw [e1] at hc
        rw [e2] at hm
        have ef : px_fz (nI m) (px_lim (19 + k)) = m := by
          rw [eL]; unfold px_fz; rw [nI_toInt (by omega)]; omega
        refine px_st_of (c := True) hc (by decide) hm (by decide) ?_ (fun _ => rfl)
        refine h.shs (fun j hj => px_upd_ne _ _ (by omega)) (fun j hj => px_upd_ne _ _ (by omega)) (fun j hj => px_up_ne _ _ (by omega)) (fun j hj => ?_) hcw ?_
        · show va_up (va_up (va_up G 11 _) 12 _) 13 _ j = _
          rw [px_up_ne _ _ (by omega), px_up_ne _ _ (by omega), px_up_ne _ _ (by omega)]
        · refine g_sh_k hk hS (fun j hj => px_upd_ne _ _ hj) (fun j hj => px_upd_ne _ _ hj) (fun j hj => px_up_ne _ _ hj) (fun j hj => px_upd_ne (G 11) _ hj) (fun j hj => px_upd_ne (G 12) _ hj) (fun j hj => if_neg hj) ⟨?_, ?_, ⟨m, hm24, px_upd_self (G 12) k _⟩, fun q => ⟨?_, fun i hi => ?_⟩⟩
          · exact (px_upd_self _ _ _).trans (px_upd_self (G 11) k bits).symm
          · show upd (G 11) k bits k = 0 ∨ upd (G 11) k bits k = 8 ∨ upd (G 11) k bits k = 16 ∨ upd (G 11) k bits k = 32
            rw [px_upd_self]; exact Or.inr cb
          · show upd N (19 + k) _ (19 + k) = upd (G 12) k (nI m) k
            rw [px_upd_self, px_upd_self, ef]; rfl
          · have hi2 : i < (upd (G 12) k (nI m) k).toNatClampNeg := hi
            rw [px_upd_self, nI_clamp (by omega)] at hi2
            show va_up F (19 + k) _ (19 + k) i = zz_pl (fun _ => 0) (G 13) (24 * k) 24 (24 * k + i)
            rw [px_up_self, ef]
            exact (if_pos (by omega)).trans (if_pos (by omega)).symm
      · have e1 : s_sheet Z N F k bits n = (-1000000000 - 1, Z, N, F) := by
          unfold s_sheet
          rcases cb with q | q | q <;> subst q <;> simp [n1, n2]
        have e2 : s_msheet Zm G k bits n = (-1000000000 - 1, Zm, G) := by
          unfold s_msheet
          rcases cb with q | q | q <;> subst q <;> simp [n1, n2]
        rw [e1] at hc
        rw [e2] at hm
        exact px_st_of (c := True) hc (by decide) hm (by decide) h (fun _ => rfl)
    · have e1 : s_sheet Z N F k bits n = (-1000000000 - 3, Z, N, F) := by
        unfold s_sheet
        rcases cb with q | q | q <;> subst q <;> simp [n1]
      have e2 : s_msheet Zm G k bits n = (-1000000000 - 3, Zm, G) := by
        unfold s_msheet
        rcases cb with q | q | q <;> subst q <;> simp [n1]
      rw [e1] at hc
      rw [e2] at hm
      exact px_st_of (c := True) hc (by decide) hm (by decide) h (fun _ => rfl)
  · have b1 : ¬ (bits = 8) := fun q => cb (Or.inl q)
    have b2 : ¬ (bits = 16) := fun q => cb (Or.inr (Or.inl q))
    have b3 : ¬ (bits = 32) := fun q => cb (Or.inr (Or.inr q))
    rw [show s_sheet Z N F k bits n = (-1000000000 - 1, Z, N, F) from (if_neg c0).trans ((if_neg b1).trans ((if_neg b2).trans (if_neg b3)))] at hc
    rw [show s_msheet Zm G k bits n = (-1000000000 - 1, Zm, G) from (if_neg c0).trans ((if_neg b1).trans ((if_neg b2).trans (if_neg b3)))] at hm
    exact px_st_of (c := True) hc (by decide) hm (by decide) h (fun _ => rfl)
