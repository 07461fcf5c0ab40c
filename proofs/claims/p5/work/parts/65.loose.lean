theorem i_rem_n {a b : Nat} (ha : a < 2 ^ 31) (hb : b < 100000) (h0 : 0 < b) : i_rem (nI a) (nI b) = nI (a % b) := by
  unfold i_rem
  rw [if_neg (fun q => by have := (nI_eq (b := 0) (by omega) (by omega)).mp q; omega), zz_rem ha (by omega)]
/-- z and the first piece change -/
theorem RR.zs {Z N Zm : Nat → Int32} {F G : Nat → Nat → Int32} (h : RR Z N F Zm G) {s : Nat} (h1 : 1 ≤ s) (h2 : s ≤ fT (G 0)) (d : Int32) : RR (upd Z 0 d) N (va_up F 0 (upd (F 0) 6 (nI s))) Zm (va_up G 0 (upd (upd (G 0) 7 d) 6 (nI s))) := by
  have hne : ∀ {j : Nat}, j ≠ 6 → j ≠ 7 → upd (upd (G 0) 7 d) 6 (nI s) j = G 0 j := fun c1 c2 => by rw [px_upd_ne _ _ c1, px_upd_ne _ _ c2]
  refine RR.now h (fun j hj => px_upd_ne _ _ hj) (fun _ _ => rfl) (fun j hj => px_up_ne F _ (by omega)) h.1 ?_ ?_ (h.tt.cg ⟨rfl, rfl⟩ ⟨rfl, rfl⟩ (fun j hj => hne (by omega) (by omega)))
  · refine g_row_lo (fun j hj => hne (by omega) (by omega)) h.2.1 (g_wall_congr (g_start h.wall h1 h2) (fun j hj => ?_))
    by_cases c : j = 6
    · subst c; rw [px_upd_self, px_upd_self]
    · rw [hne c (by omega), px_upd_ne _ _ c]
  · refine g_rel_lo h.2.2.1 ?_ (fun j hj => hne (by omega) (by omega)) (fun i hi => ?_)
    · rw [px_upd_self, px_upd_ne _ _ (by omega), px_upd_self]
    · by_cases c : i = 6
      · subst c; rw [px_upd_self, px_upd_self]
      · rw [hne c (by omega), px_upd_ne _ _ c]; exact h.F0 hi
/-- a THING hangs elsewhere -/
theorem RR.hangTo {Z N Zm : Nat → Int32} {F G : Nat → Nat → Int32} (h : RR Z N F Zm G) {t a : Nat} (ht : t < (G 0 10).toNatClampNeg) (a2 : a ≤ 4000) : RR Z N (va_up F 3 (upd (F 3) t (nI a))) Zm (va_up G 0 (upd (G 0) (12 + 4 * t + 2) (nI a))) := by
  have hM := h.M
  refine h.things (fun j hj => px_upd_ne _ _ (by omega)) (fun j hj => px_up_ne F _ (by omega)) (fun n hn => ?_)
  have hh := h.th hn
  by_cases cn : n = t
  · subst cn
    refine ⟨⟨?_, ?_, ⟨a, a2, px_upd_self _ _ _⟩, ?_⟩, ?_, ?_, ?_, ?_⟩
    · rw [px_upd_ne _ _ (by omega)]; exact hh.1.1
    · rw [px_upd_ne _ _ (by omega)]; exact hh.1.2.1
    · rw [px_upd_ne _ _ (by omega)]; exact hh.1.2.2.2
    · rw [px_upd_ne _ _ (by omega)]; exact hh.2.1
    · rw [px_upd_ne _ _ (by omega)]; exact hh.2.2.1
    · rw [px_upd_self]; exact px_upd_self _ _ _
    · rw [px_upd_ne _ _ (by omega)]; exact hh.2.2.2.2
  · refine ⟨?_, ?_, ?_, ?_, ?_⟩
    · unfold g_th
      rw [px_upd_ne _ _ (by omega), px_upd_ne _ _ (by omega), px_upd_ne _ _ (by omega), px_upd_ne _ _ (by omega)]; exact hh.1
    · rw [px_upd_ne _ _ (by omega)]; exact hh.2.1
    · rw [px_upd_ne _ _ (by omega)]; exact hh.2.2.1
    · rw [px_upd_ne _ _ (by omega)]; exact (px_upd_ne _ _ cn).trans hh.2.2.2.1
    · rw [px_upd_ne _ _ (by omega)]; exact hh.2.2.2.2
theorem zz_g3 (f : Nat → Int32) (d1 d2 d3 s : Int32) : upd (upd (upd (upd f 7 d1) 6 s) 7 d2) 7 d3 = upd (upd f 7 d3) 6 s := by
  funext j
  unfold upd
  by_cases c : j = 7
  · subst c; rfl
  · simp [c]
def zz_sc (dr : Int32 → Nat) (dz : Int32 → Int32) (Z N : Nat → Int32) (F : Nat → Nat → Int32)  : (Nat → Int32) × (Nat → Int32) × (Nat → Nat → Int32) := (if (N 1) ≤ 0 then ((upd Z 0 (dz (Z 0))), N, (va_up F 0 (upd (F 0) 6 (1 + (i_rem (nI (dr (Z 0))) ((F 0) 1)))))) else ((upd (upd (upd Z 0 (dz (Z 0))) 0 (dz (dz (Z 0)))) 0 (dz (dz (dz (Z 0))))), N, (va_up (va_up F 0 (upd (F 0) 6 (1 + (i_rem (nI (dr (Z 0))) ((F 0) 1))))) 3 (upd (F 3) ((i_rem (nI (dr (dz (Z 0)))) (N 1))).toNatClampNeg (i_rem (nI (dr (dz (dz (Z 0))))) (((upd (F 0) 6 (1 + (i_rem (nI (dr (Z 0))) ((F 0) 1)))) 0) + 1))))))
theorem zz_sc_eq (Z N : Nat → Int32) (F : Nat → Nat → Int32) : s_chg Z N F = zz_sc zz_dr zz_dz Z N F := by
  unfold s_chg zz_sc
  rfl
theorem RR.chgA {dr : Int32 → Nat} {dz : Int32 → Int32} (hdr : ∀ z : Int32, dr z < 16777216) {Z N Zm : Nat → Int32} {F G : Nat → Nat → Int32} (h : RR Z N F Zm G) {L T M : Nat} (hL : G 0 0 = nI L) (hL4 : L ≤ 4000) (hT : G 0 1 = nI T) (hT1 : 1 ≤ T) (hT2 : T ≤ 200) (hM : G 0 10 = nI M) (hM6 : M ≤ 6) : RR (zz_sc dr dz Z N F).1 N (zz_sc dr dz Z N F).2.2 Zm (va_up G 0 (s_mchg dr dz L T M (G 0))) := by
  have eZ : Z 0 = G 0 7 := h.2.2.1.2.1
  have eN : N 1 = nI M := h.2.2.1.2.2.2.1.1.trans hM
  have f0 : F 0 0 = nI L := (h.F0 (by decide)).trans hL
  have f1 : F 0 1 = nI T := (h.F0 (by decide)).trans hT
  have fTT : fT (G 0) = T := by unfold fT; rw [hT, nI_clamp (by omega)]
  have hMl : (G 0 10).toNatClampNeg = M := by rw [hM, nI_clamp (by omega)]
  have b1 := hdr (G 0 7)
  have b2 := hdr (dz (G 0 7))
  have b3 := hdr (dz (dz (G 0 7)))
  unfold zz_sc s_mchg
  rw [eZ, eN, f1]
  generalize dr (dz (dz (G 0 7))) = r3 at *
  generalize dr (dz (G 0 7)) = r2 at *
  generalize dr (G 0 7) = r1 at *
  generalize dz (dz (dz (G 0 7))) = d3 at *
  generalize dz (dz (G 0 7)) = d2 at *
  generalize dz (G 0 7) = d1 at *
  have es : 1 + i_rem (nI r1) (nI T) = nI (1 + r1 % T) := by rw [i_rem_n (by omega) (by omega) (by omega), Nat.add_comm, nI_succ]; exact Int32.add_comm _ _
  have es2 : 1 + nI (r1 % T) = nI (1 + r1 % T) := by rw [Nat.add_comm, nI_succ]; exact Int32.add_comm _ _
  have hlt := Nat.mod_lt r1 (show T > 0 by omega)
  rw [es, es2]
  have e10 : upd (upd (G 0) 7 d1) 6 (nI (1 + r1 % T)) 10 = nI M := by rw [px_upd_ne _ _ (by omega), px_upd_ne _ _ (by omega), hM]
  rw [e10]
  by_cases c : nI M ≤ 0
  · rw [if_pos c, if_pos c]
    exact h.zs (by omega) (by omega) d1
  · rw [if_neg c, if_neg c]
    have hM0 : 0 < M := Nat.pos_of_ne_zero (fun q => c (by subst q; decide))
    have e0 : upd (F 0) 6 (nI (1 + r1 % T)) 0 + 1 = nI (L + 1) := by rw [px_upd_ne _ _ (by omega), f0, nI_succ]
    have lt3 := Nat.mod_lt r3 (show L + 1 > 0 by omega)
    have lt2 := Nat.mod_lt r2 (show M > 0 by omega)
    have k0 := h.zs (s := 1 + r1 % T) (by omega) (by omega) d3
    have k := RR.hangTo k0 (t := r2 % M) (a := r3 % (L + 1)) (by
      show (upd (upd (G 0) 7 d3) 6 (nI (1 + r1 % T)) 10).toNatClampNeg > _
      rw [px_upd_ne _ _ (by omega), px_upd_ne _ _ (by omega), hMl]; exact lt2) (by omega)
    rw [px_up_up] at k
    dsimp only
    rw [e0, i_rem_n (a := r3) (by omega) (by omega) (by omega), i_rem_n (a := r2) (by omega) (by omega) hM0, nI_clamp (by omega), zz_uu, zz_uu, zz_g3]
    exact k
theorem RR.chg {Z N Zm : Nat → Int32} {F G : Nat → Nat → Int32} (h : RR Z N F Zm G) {L T M : Nat} (hL : G 0 0 = nI L) (hL4 : L ≤ 4000) (hT : G 0 1 = nI T) (hT1 : 1 ≤ T) (hT2 : T ≤ 200) (hM : G 0 10 = nI M) (hM6 : M ≤ 6) : RR (s_chg Z N F).1 N (s_chg Z N F).2.2 Zm (va_up G 0 (s_mchg zz_dr zz_dz L T M (G 0))) := by
  rw [zz_sc_eq]
  exact RR.chgA zz_dr_lt h hL hL4 hT hT1 hT2 hM hM6
theorem RR.chgs {Zm : Nat → Int32} {N : Nat → Int32} {L T M : Nat} (hL4 : L ≤ 4000) (hT1 : 1 ≤ T) (hT2 : T ≤ 200) (hM6 : M ≤ 6) : ∀ (m : Nat) (Z : Nat → Int32) (F G : Nat → Nat → Int32), RR Z N F Zm G → G 0 0 = nI L → G 0 1 = nI T → G 0 10 = nI M → RR (s_chgs N m Z F).1 N (s_chgs N m Z F).2 Zm (va_up G 0 (s_mchgs zz_dr zz_dz L T M m (G 0)))
  | 0, Z, F, G, h, _, _, _ => by
      have e : va_up G 0 (s_mchgs zz_dr zz_dz L T M 0 (G 0)) = G := by
        funext j
        by_cases c : j = 0
        · subst c; exact px_up_self _ _ _
        · exact px_up_ne _ _ c
      rw [e]
      exact h
  | m + 1, Z, F, G, h, hL, hT, hM => by
      have k := h.chg hL hL4 hT hT1 hT2 hM hM6
      have k2 := RR.chgs hL4 hT1 hT2 hM6 m _ _ _ k ((s_mchg_keep (G 0) 0 (by omega) (by omega) (by omega)).trans hL) ((s_mchg_keep (G 0) 1 (by omega) (by omega) (by omega)).trans hT) ((s_mchg_keep (G 0) 10 (by omega) (by omega) (by omega)).trans hM)
      rw [px_up_up] at k2
      exact k2
theorem st_loose (n : Int32) : px_st 65 174 [.int n] True := by
  intro Z N F Zm G h
  have hM := h.M
  have hTJ := (g_TJR h.wall).1
  have hL : ∃ L : Nat, L ≤ 4000 ∧ G 0 0 = nI L := by
    obtain ⟨L, T, J, R, B, S, h0, h1', h2', h4, h5, h6, a1, a2, a3, a4, a5, a6, a7, a8, a9, a10, k1, k2⟩ := h.wall
    exact ⟨L, by omega, h0⟩
  obtain ⟨L, l1, l2⟩ := hL
  have hc := kc_loose (Z := Z) (F := F) h.1 h.hT hM.2.2.1 hM.2.1 n
  have hm := kc_mloose (Z := Zm) (F := G) (show 1 ≤ fT (G 0) by omega) hTJ.2.2 l1 hM.2.1 hTJ.1 l2 hM.1 n
  by_cases c1 : 1 ≤ n ∧ n ≤ 40
  case neg =>
    rw [show s_mloose L (fT (G 0)) (G 0 10).toNatClampNeg Zm G n = (-1000000000 - 1, Zm, G) from if_neg c1] at hm
    by_cases c2 : n < 1
    · rw [show s_loose Z N F n = (-1000000000 - 1, Z, N, F) from if_pos c2] at hc
      exact px_st_of (c := True) hc (by decide) hm (by decide) h (fun _ => rfl)
    · rw [show s_loose Z N F n = (-1000000000 - 1, Z, N, F) from (if_neg c2).trans (if_neg (fun q => c1 ⟨Int32.not_lt.mp c2, q⟩))] at hc
      exact px_st_of (c := True) hc (by decide) hm (by decide) h (fun _ => rfl)
  have c2 : ¬ (n < 1) := Int32.not_lt.mpr c1.1
  have k := RR.chgs l1 (show 1 ≤ fT (G 0) by omega) hTJ.2.2 hM.2.1 n.toNatClampNeg Z F G h l2 hTJ.1 hM.1
  rw [show s_loose Z N F n = ((((s_chgs N n.toNatClampNeg Z F).2 0) 6), (s_chgs N n.toNatClampNeg Z F).1, N, (s_chgs N n.toNatClampNeg Z F).2) from (if_neg c2).trans (if_pos c1.2)] at hc
  rw [show s_mloose L (fT (G 0)) (G 0 10).toNatClampNeg Zm G n = (((s_mchgs zz_dr zz_dz L (fT (G 0)) (G 0 10).toNatClampNeg n.toNatClampNeg (G 0)) 6), Zm, (va_up G 0 (s_mchgs zz_dr zz_dz L (fT (G 0)) (G 0 10).toNatClampNeg n.toNatClampNeg (G 0)))) from if_pos c1] at hm
  exact px_st_of (c := True) hc (by decide) hm (by decide) k (fun _ => k.F0 (by decide))
