/-! part 60.sheets -/
section
theorem g_rel_cg {q : Nat} {z : Int32} {N N' : Nat → Int32} {F F' : Nat → Nat → Int32} {f : Nat → Int32} (h : g_rel q z N F f) (eN : ∀ i : Nat, i ≤ 8 → N' (q + i) = N (q + i)) (eF : ∀ i : Nat, i ≤ 8 → F' (q + i) = F (q + i)) : g_rel q z N' F' f := by
  have e0 : F' q = F q := eF 0 (by omega)
  rw [g_rel, e0, eN 5 (by omega), eN 8 (by omega), eN 1 (by omega), eN 2 (by omega), eN 3 (by omega), eN 4 (by omega), eF 1 (by omega), eF 2 (by omega), eF 3 (by omega), eF 4 (by omega), eF 5 (by omega), eF 8 (by omega)]
  exact h
/-- only SHEETS change -/
theorem RR.shs {Z N Z' N' Zm : Nat → Int32} {F F' G G' : Nat → Nat → Int32} (h : RR Z N F Zm G) (hZ : ∀ j : Nat, ¬ (2 ≤ j ∧ j ≤ 5) → Z' j = Z j) (hN : ∀ j : Nat, ¬ (19 ≤ j ∧ j ≤ 22) → N' j = N j) (hF : ∀ j : Nat, ¬ (19 ≤ j ∧ j ≤ 22) → F' j = F j) (hG : ∀ j : Nat, j < 5 → G' j = G j) (hw : px_cw N') (hs : g_sh Z' N' F' G') : RR Z' N' F' Zm G' := by
  obtain ⟨b0, b1, b2, b3, b4, b5, b6, b7, b8⟩ := h
  rw [RR, hG 0 (by omega), hG 1 (by omega), hG 3 (by omega), hG 4 (by omega), hZ 0 (by omega), hZ 1 (by omega), hZ 21 (by omega)]
  exact ⟨hw, b1, g_rel_cg b2 (fun i hi => hN _ (by omega)) (fun i hi => hF _ (by omega)), b3, fun hz => ⟨(b4 hz).1, g_rel_cg (b4 hz).2 (fun i hi => hN _ (by omega)) (fun i hi => hF _ (by omega))⟩, hs, b6, b7, b8.1, b8.2.cg (hZ 21 (by omega)) (fun q hq => hN q (by omega)) (fun q hq => hF q (by omega)) (fun j _ => congrFun (hG 0 (by omega)) j) (hG 1 (by omega))⟩
theorem g_sh_k {Z N Z' N' : Nat → Int32} {F F' G G' : Nat → Nat → Int32} {k : Nat} (hk : k < 4) (h : g_sh Z N F G) (hZ : ∀ j : Nat, j ≠ 2 + k → Z' j = Z j) (hN : ∀ j : Nat, j ≠ 19 + k → N' j = N j) (hF : ∀ j : Nat, j ≠ 19 + k → F' j = F j) (h11 : ∀ j : Nat, j ≠ k → G' 11 j = G 11 j) (h12 : ∀ j : Nat, j ≠ k → G' 12 j = G 12 j) (h13 : ∀ j : Nat, ¬ (24 * k ≤ j ∧ j < 24 * k + 24) → G' 13 j = G 13 j) (hn : Z' (2 + k) = G' 11 k ∧ (G' 11 k = 0 ∨ G' 11 k = 8 ∨ G' 11 k = 16 ∨ G' 11 k = 32) ∧ (∃ S : Nat, S ≤ 24 ∧ G' 12 k = nI S) ∧ (¬ (G' 11 k = 0) → N' (19 + k) = G' 12 k ∧ ∀ i : Nat, i < (G' 12 k).toNatClampNeg → F' (19 + k) i = G' 13 (24 * k + i))) : g_sh Z' N' F' G' := by
  intro k2 hk2
  by_cases c : k2 = k
  · subst c; exact hn
  · obtain ⟨a1, a2, ⟨S, s1, s2⟩, a4⟩ := h k2 hk2
    rw [hZ _ (by omega), hN _ (by omega), hF _ (by omega), h11 _ c, h12 _ c]
    refine ⟨a1, a2, ⟨S, s1, s2⟩, fun q => ⟨(a4 q).1, fun i hi => ?_⟩⟩
    have hi2 : i < S := by rw [s2, nI_clamp (by omega)] at hi; exact hi
    rw [h13 _ (by omega)]
    exact (a4 q).2 i hi
theorem st_sheet (sheet bits n : Int32) : px_st 75 195 [.int sheet, .int bits, .int n] True := by
  intro Z N F Zm G h
  rcases zz_sheet sheet with c | ⟨k, hk, rfl⟩
  · exact px_st_of (c := True) (kc_sheetB h.1 sheet bits n c) (by decide) (kc_msheetB sheet bits n c) (by decide) h (fun _ => rfl)
  have hc := kc_sheet (Z := Z) (F := F) h.1 k hk bits n
  have hm := kc_msheet (Z := Zm) (F := G) k bits n hk
  have eL : px_lim (19 + k) = 24 := px_lim19 hk
  have hcw : px_cw (upd N (19 + k) (Int32.ofNat (px_fz n (px_lim (19 + k))))) := by
    refine h.1.upd (by omega) (by omega) (by omega) ?_
    rw [eL]
    exact px_lim_n (n := px_fz n 24) (by unfold px_fz; omega) (by omega)
  have hS := h.2.2.2.2.2.1
  by_cases c0 : bits = 0
  · subst c0
    rw [show s_sheet Z N F k 0 n = (1, (upd Z (2 + k) 0), (upd N (19 + k) (Int32.ofNat (px_fz n (px_lim (19 + k))))), (va_up F (19 + k) (px_zf (F (19 + k)) 0 (px_fz n (px_lim (19 + k)))))) from rfl] at hc
    rw [show s_msheet Zm G k 0 n = (1, Zm, (va_up (va_up (va_up G 11 (upd (G 11) k 0)) 12 (upd (G 12) k 0)) 13 (zz_pl (fun _ => 0) (G 13) (24 * k) 24))) from rfl] at hm
    refine px_st_of (c := True) hc (by decide) hm (by decide) ?_ (fun _ => rfl)
    refine h.shs (fun j hj => px_upd_ne _ _ (by omega)) (fun j hj => px_upd_ne _ _ (by omega)) (fun j hj => px_up_ne _ _ (by omega)) (fun j hj => ?_) hcw ?_
    · show va_up (va_up (va_up G 11 _) 12 _) 13 _ j = _
      rw [px_up_ne _ _ (by omega), px_up_ne _ _ (by omega), px_up_ne _ _ (by omega)]
    · refine g_sh_k hk hS (fun j hj => px_upd_ne _ _ hj) (fun j hj => px_upd_ne _ _ hj) (fun j hj => px_up_ne _ _ hj) (fun j hj => px_upd_ne (G 11) _ hj) (fun j hj => px_upd_ne (G 12) _ hj) (fun j hj => if_neg hj) ⟨?_, Or.inl (px_upd_self (G 11) k 0), ⟨0, by omega, px_upd_self (G 12) k 0⟩, fun q => (q (px_upd_self (G 11) k 0)).elim⟩
      exact (px_upd_self _ _ _).trans (px_upd_self (G 11) k 0).symm
  by_cases cb : bits = 8 ∨ bits = 16 ∨ bits = 32
  · by_cases n1 : 0 ≤ n
    · by_cases n2 : n ≤ 24
      · obtain ⟨m, -, hm24, rfl⟩ := zz_rng (a := 0) (b := 24) (by omega) (by omega) n1 n2
        have e1 : s_sheet Z N F k bits (nI m) = (1, (upd Z (2 + k) bits), (upd N (19 + k) (Int32.ofNat (px_fz (nI m) (px_lim (19 + k))))), (va_up F (19 + k) (px_zf (F (19 + k)) 0 (px_fz (nI m) (px_lim (19 + k)))))) := by
          unfold s_sheet
          rcases cb with q | q | q <;> subst q <;> simp [n1, n2]
        have e2 : s_msheet Zm G k bits (nI m) = (1, Zm, (va_up (va_up (va_up G 11 (upd (G 11) k bits)) 12 (upd (G 12) k (nI m))) 13 (zz_pl (fun _ => 0) (G 13) (24 * k) 24))) := by
          unfold s_msheet
          rcases cb with q | q | q <;> subst q <;> simp [n1, n2]
        rw [e1] at hc
        rw [e2] at hm
        have ef : px_fz (nI m) (px_lim (19 + k)) = m := by
          rw [eL]; unfold px_fz; rw [nI_toInt (by omega)]; omega
        refine px_st_of (c := True) hc (by decide) hm (by decide) ?_ (fun _ => rfl)
        refine h.shs (fun j hj => px_upd_ne _ _ (by omega)) (fun j hj => px_upd_ne _ _ (by omega)) (fun j hj => px_up_ne _ _ (by omega)) (fun j hj => ?_) hcw ?_
        · show va_up (va_up (va_up G 11 _) 12 _) 13 _ j = _
          rw [px_up_ne _ _ (by omega), px_up_ne _ _ (by omega), px_up_ne _ _ (by omega)]
        · refine g_sh_k hk hS (fun j hj => px_upd_ne _ _ hj) (fun j hj => px_upd_ne _ _ hj) (fun j hj => px_up_ne _ _ hj) (fun j hj => px_upd_ne (G 11) _ hj) (fun j hj => px_upd_ne (G 12) _ hj) (fun j hj => if_neg hj) ⟨?_, ?_, ⟨m, hm24, px_upd_self (G 12) k _⟩, fun q => ⟨?_, fun i hi => ?_⟩⟩
          · exact (px_upd_self _ _ _).trans (px_upd_self (G 11) k bits).symm
          · show upd (G 11) k bits k = 0 ∨ upd (G 11) k bits k = 8 ∨ upd (G 11) k bits k = 16 ∨ upd (G 11) k bits k = 32
            rw [px_upd_self]; exact Or.inr cb
          · show upd N (19 + k) _ (19 + k) = upd (G 12) k (nI m) k
            rw [px_upd_self, px_upd_self, ef]; rfl
          · have hi2 : i < (upd (G 12) k (nI m) k).toNatClampNeg := hi
            rw [px_upd_self, nI_clamp (by omega)] at hi2
            show va_up F (19 + k) _ (19 + k) i = zz_pl (fun _ => 0) (G 13) (24 * k) 24 (24 * k + i)
            rw [px_up_self, ef]
            exact (if_pos (by omega)).trans (if_pos (by omega)).symm
      · have e1 : s_sheet Z N F k bits n = (-1000000000 - 1, Z, N, F) := by
          unfold s_sheet
          rcases cb with q | q | q <;> subst q <;> simp [n1, n2]
        have e2 : s_msheet Zm G k bits n = (-1000000000 - 1, Zm, G) := by
          unfold s_msheet
          rcases cb with q | q | q <;> subst q <;> simp [n1, n2]
        rw [e1] at hc
        rw [e2] at hm
        exact px_st_of (c := True) hc (by decide) hm (by decide) h (fun _ => rfl)
    · have e1 : s_sheet Z N F k bits n = (-1000000000 - 3, Z, N, F) := by
        unfold s_sheet
        rcases cb with q | q | q <;> subst q <;> simp [n1]
      have e2 : s_msheet Zm G k bits n = (-1000000000 - 3, Zm, G) := by
        unfold s_msheet
        rcases cb with q | q | q <;> subst q <;> simp [n1]
      rw [e1] at hc
      rw [e2] at hm
      exact px_st_of (c := True) hc (by decide) hm (by decide) h (fun _ => rfl)
  · have b1 : ¬ (bits = 8) := fun q => cb (Or.inl q)
    have b2 : ¬ (bits = 16) := fun q => cb (Or.inr (Or.inl q))
    have b3 : ¬ (bits = 32) := fun q => cb (Or.inr (Or.inr q))
    rw [show s_sheet Z N F k bits n = (-1000000000 - 1, Z, N, F) from (if_neg c0).trans ((if_neg b1).trans ((if_neg b2).trans (if_neg b3)))] at hc
    rw [show s_msheet Zm G k bits n = (-1000000000 - 1, Zm, G) from (if_neg c0).trans ((if_neg b1).trans ((if_neg b2).trans (if_neg b3)))] at hm
    exact px_st_of (c := True) hc (by decide) hm (by decide) h (fun _ => rfl)
end
/-! part 61.put -/
section
theorem zz_low {b : Int32} (hb : b = 8 ∨ b = 16 ∨ b = 32) (v : Int32) : s_low b v = (v <<< ((32 - b) &&& 31)) >>> ((32 - b) &&& 31) := by
  unfold s_low
  rcases hb with rfl | rfl | rfl
  · rw [if_pos rfl, show ((32 : Int32) - 8) &&& 31 = 24 from by decide]
    apply Int32.toBitVec_inj.mp
    rw [Int32.toBitVec_shiftRight, Int32.toBitVec_shiftLeft]
    apply BitVec.eq_of_getLsbD_eq
    intro i hi
    have e : (BitVec.smod (24 : Int32).toBitVec 32).toNat = 24 := by decide
    have h1 : (BitVec.signExtend 8 v.toBitVec)[7] = v.toBitVec[7] := by simp [BitVec.getElem_signExtend]
    simp only [Int32.toBitVec_shiftRight, Int32.toBitVec_shiftLeft, Int8.toBitVec_toInt32, Int32.toBitVec_toInt8, BitVec.getLsbD_signExtend, BitVec.sshiftRight_eq', BitVec.shiftLeft_eq', BitVec.getLsbD_sshiftRight, BitVec.getLsbD_shiftLeft, BitVec.msb_eq_getLsbD_last, e]
    by_cases c : i < 8
    · have c2 : 24 + i < 32 := by omega
      simp [hi, c, c2, Nat.not_le.mpr hi, h1]
    · have c2 : ¬ (24 + i < 32) := by omega
      simp [hi, c, c2, Nat.not_le.mpr hi, h1]
  · rw [if_neg (by decide), if_pos rfl, show ((32 : Int32) - 16) &&& 31 = 16 from by decide]
    apply Int32.toBitVec_inj.mp
    rw [Int32.toBitVec_shiftRight, Int32.toBitVec_shiftLeft]
    apply BitVec.eq_of_getLsbD_eq
    intro i hi
    have e : (BitVec.smod (16 : Int32).toBitVec 32).toNat = 16 := by decide
    have h1 : (BitVec.signExtend 16 v.toBitVec)[15] = v.toBitVec[15] := by simp [BitVec.getElem_signExtend]
    simp only [Int16.toBitVec_toInt32, Int32.toBitVec_toInt16, BitVec.getLsbD_signExtend, BitVec.sshiftRight_eq', BitVec.shiftLeft_eq', BitVec.getLsbD_sshiftRight, BitVec.getLsbD_shiftLeft, BitVec.msb_eq_getLsbD_last, e]
    by_cases c : i < 16
    · have c2 : 16 + i < 32 := by omega
      simp [hi, c, c2, Nat.not_le.mpr hi, h1]
    · have c2 : ¬ (16 + i < 32) := by omega
      simp [hi, c, c2, Nat.not_le.mpr hi, h1]
  · rw [if_neg (by decide), if_neg (by decide), show ((32 : Int32) - 32) &&& 31 = 0 from by decide]
    simp
theorem st_put (sheet i v : Int32) : px_st 76 196 [.int sheet, .int i, .int v] True := by
  intro Z N F Zm G h
  rcases zz_sheet sheet with c | ⟨k, hk, rfl⟩
  · exact px_st_of (c := True) (kc_putB h.1 sheet i v c) (by decide) (kc_mputB sheet i v c) (by decide) h (fun _ => rfl)
  have hS := h.2.2.2.2.2.1
  obtain ⟨a1, a2, ⟨S, s1, s2⟩, a4⟩ := hS k hk
  have hc := kc_put (Z := Z) (F := F) h.1 k hk i v
  have hm := kc_mput (Z := Zm) (F := G) k i v hk s2 s1
  by_cases c0 : G 11 k = 0
  · rw [show s_put Z N F k i v = (-1000000000 - 2, Z, N, F) from if_pos (a1.trans c0)] at hc
    rw [show s_mput Zm G k i v = (-1000000000 - 2, Zm, G) from if_pos c0] at hm
    exact px_st_of (c := True) hc (by decide) hm (by decide) h (fun _ => rfl)
  have z0 : ¬ (Z (2 + k) = 0) := fun q => c0 (a1.symm.trans q)
  obtain ⟨n1, n2⟩ := a4 c0
  have hq := zz_rowq (t := i) s2 (by omega)
  by_cases c : i < 0 ∨ G 12 k ≤ i
  · rw [show s_put Z N F k i v = (-1000000000 - 1, Z, N, F) from (if_neg z0).trans (if_pos (by rw [n1]; exact c))] at hc
    rw [show s_mput Zm G k i v = (-1000000000 - 1, Zm, G) from (if_neg c0).trans (if_neg (fun q => hq.mpr q c))] at hm
    exact px_st_of (c := True) hc (by decide) hm (by decide) h (fun _ => rfl)
  · obtain ⟨t, ht, rfl⟩ := zz_rown s2 (by omega) c
    have et : (nI t).toNatClampNeg = t := nI_clamp (by omega)
    have ez : s_low (Z (2 + k)) v = (v <<< ((32 - G 11 k) &&& 31)) >>> ((32 - G 11 k) &&& 31) := by
      rw [a1]; exact zz_low (a2.resolve_left c0) v
    rw [show s_put Z N F k (nI t) v = (1, Z, N, va_up F (19 + k) (upd (F (19 + k)) t ((v <<< ((32 - G 11 k) &&& 31)) >>> ((32 - G 11 k) &&& 31)))) from ((if_neg z0).trans (if_neg (by rw [n1]; exact c))).trans (by rw [et, ez])] at hc
    rw [show s_mput Zm G k (nI t) v = (1, Zm, va_up G 13 (upd (G 13) (24 * k + t) ((v <<< ((32 - G 11 k) &&& 31)) >>> ((32 - G 11 k) &&& 31)))) from ((if_neg c0).trans (if_pos (hq.mp c))).trans (by rw [et])] at hm
    refine px_st_of (c := True) hc (by decide) hm (by decide) ?_ (fun _ => rfl)
    refine h.shs (fun _ _ => rfl) (fun _ _ => rfl) (fun j hj => px_up_ne _ _ (by omega)) (fun j hj => px_up_ne _ _ (by omega)) h.1 ?_
    refine g_sh_k hk hS (fun _ _ => rfl) (fun _ _ => rfl) (fun j hj => px_up_ne _ _ hj) (fun _ _ => rfl) (fun _ _ => rfl) (fun j hj => px_upd_ne (G 13) _ (by omega)) ⟨a1, a2, ⟨S, s1, s2⟩, fun q => ⟨n1, fun j hj => ?_⟩⟩
    show va_up F (19 + k) _ (19 + k) j = upd (G 13) (24 * k + t) _ (24 * k + j)
    rw [px_up_self]
    by_cases cj : j = t
    · subst cj; rw [px_upd_self, px_upd_self]
    · rw [px_upd_ne _ _ cj, px_upd_ne _ _ (by omega)]
      exact n2 j hj
end
/-! part 62.move -/
section
theorem zz_sbw {x n : Int32} {S : Nat} (hx : x.toInt = S) (hS : S ≤ 24) (hn : 0 ≤ n.toInt) : (x - n).toInt = S - n.toInt := by
  have hlt := n.toInt_lt
  rw [Int32.toInt_sub, hx]
  exact Int.bmod_eq_of_le (by omega) (by omega)
theorem zz_mvc {x i n : Int32} {S : Nat} (hx : x.toInt = S) (hS : S ≤ 24) : (i < 0 ∨ n < 0 ∨ x < n ∨ x - n < i) ↔ ¬ (0 ≤ i.toInt ∧ 0 ≤ n.toInt ∧ i.toInt + n.toInt ≤ S) := by
  have z : (0 : Int32).toInt = 0 := rfl
  simp only [Int32.lt_iff_toInt_lt, z, hx]
  by_cases hn : 0 ≤ n.toInt
  · rw [zz_sbw hx hS hn]; omega
  · generalize (x - n).toInt = y; omega
theorem st_move (sheet i other j n : Int32) : px_st 77 197 [.int sheet, .int i, .int other, .int j, .int n] True := by
  intro Z N F Zm G h
  rcases zz_sheet sheet with c | ⟨k, hk, rfl⟩ <;> rcases zz_sheet other with c2 | ⟨k2, hk2, rfl⟩
  · exact px_st_of (c := True) (kc_moveB3 h.1 sheet i other j n c c2) (by decide) (kc_mmoveB3 sheet i other j n c c2) (by decide) h (fun _ => rfl)
  · exact px_st_of (c := True) (kc_moveB1 h.1 sheet i k2 j n c hk2) (by decide) (kc_mmoveB1 sheet i k2 j n c hk2) (by decide) h (fun _ => rfl)
  · exact px_st_of (c := True) (kc_moveB2 h.1 k i other j n hk c2) (by decide) (kc_mmoveB2 k i other j n hk c2) (by decide) h (fun _ => rfl)
  have hS := h.2.2.2.2.2.1
  obtain ⟨a1, a2, ⟨S, s1, s2⟩, a4⟩ := hS k hk
  obtain ⟨b1, b2, ⟨S2, t1, t2⟩, b4⟩ := hS k2 hk2
  have hc := kc_move (Z := Z) (F := F) h.1 k i k2 j n hk hk2
  have hm := kc_mmove (Z := Zm) (F := G) k i k2 j n hk hk2 s2 t2 s1 t1
  by_cases c0 : G 11 k = 0
  · rw [show s_move Z N F k i k2 j n = (-1000000000 - 2, Z, N, F) from if_pos (a1.trans c0)] at hc
    rw [show s_mmove Zm G k i k2 j n = (-1000000000 - 2, Zm, G) from if_pos c0] at hm
    exact px_st_of (c := True) hc (by decide) hm (by decide) h (fun _ => rfl)
  have z0 : ¬ (Z (2 + k) = 0) := fun q => c0 (a1.symm.trans q)
  by_cases c1 : G 11 k2 = 0
  · rw [show s_move Z N F k i k2 j n = (-1000000000 - 2, Z, N, F) from (if_neg z0).trans (if_pos (b1.trans c1))] at hc
    rw [show s_mmove Zm G k i k2 j n = (-1000000000 - 2, Zm, G) from (if_neg c0).trans (if_pos c1)] at hm
    exact px_st_of (c := True) hc (by decide) hm (by decide) h (fun _ => rfl)
  have z1 : ¬ (Z (2 + k2) = 0) := fun q => c1 (b1.symm.trans q)
  by_cases c2 : G 11 k = G 11 k2
  case neg =>
    rw [show s_move Z N F k i k2 j n = (-1000000000 - 5, Z, N, F) from (if_neg z0).trans ((if_neg z1).trans (if_neg (by rw [a1, b1]; exact c2)))] at hc
    rw [show s_mmove Zm G k i k2 j n = (-1000000000 - 5, Zm, G) from (if_neg c0).trans ((if_neg c1).trans (if_neg c2))] at hm
    exact px_st_of (c := True) hc (by decide) hm (by decide) h (fun _ => rfl)
  have z2 : Z (2 + k) = Z (2 + k2) := by rw [a1, b1]; exact c2
  obtain ⟨n1, n2⟩ := a4 c0
  obtain ⟨m1, m2⟩ := b4 c1
  have e1 : (N (19 + k)).toInt = S := by rw [n1, s2, nI_toInt (by omega)]
  have e2 : (N (19 + k2)).toInt = S2 := by rw [m1, t2, nI_toInt (by omega)]
  have g1 : (G 12 k).toInt = S := by rw [s2, nI_toInt (by omega)]
  have g2 : (G 12 k2).toInt = S2 := by rw [t2, nI_toInt (by omega)]
  have q1 := zz_mvc (i := i) (n := n) e1 s1
  have q2 := zz_mvc (i := j) (n := n) e2 t1
  have z : (0 : Int32).toInt = 0 := rfl
  by_cases P : 0 ≤ i.toInt ∧ 0 ≤ j.toInt ∧ 0 ≤ n.toInt ∧ i.toInt + n.toInt ≤ S ∧ j.toInt + n.toInt ≤ S2
  case neg =>
    have ec : s_move Z N F k i k2 j n = (-1000000000 - 1, Z, N, F) := by
      refine (if_neg z0).trans ((if_neg z1).trans ((if_pos z2).trans ?_))
      by_cases p1 : i < 0 ∨ n < 0 ∨ N (19 + k) < n ∨ N (19 + k) - n < i
      · exact if_pos p1
      · refine (if_neg p1).trans (if_pos (q2.mpr (fun w => P ?_)))
        have p2 := Decidable.not_not.mp (fun w => p1 (q1.mpr w))
        exact ⟨p2.1, w.1, p2.2.1, p2.2.2, w.2.2⟩
    have em : s_mmove Zm G k i k2 j n = (-1000000000 - 1, Zm, G) := by
      refine (if_neg c0).trans ((if_neg c1).trans ((if_pos c2).trans ?_))
      by_cases p1 : n < 0
      · exact if_pos p1
      refine (if_neg p1).trans ?_
      by_cases p2 : i < 0
      · exact if_pos p2
      refine (if_neg p2).trans ?_
      by_cases p3 : j < 0
      · exact if_pos p3
      refine (if_neg p3).trans ?_
      rw [Int32.lt_iff_toInt_lt, z] at p1 p2 p3
      have hn : 0 ≤ n.toInt := by omega
      by_cases p4 : G 12 k - n < i
      · exact if_pos p4
      refine (if_neg p4).trans (if_neg (fun w => P ?_))
      rw [Int32.lt_iff_toInt_lt, zz_sbw g1 s1 hn] at p4
      rw [Int32.le_iff_toInt_le, zz_sbw g2 t1 hn] at w
      omega
    rw [ec] at hc
    rw [em] at hm
    exact px_st_of (c := True) hc (by decide) hm (by decide) h (fun _ => rfl)
  obtain ⟨pi, pj, pn, pS, pS2⟩ := P
  have ni : ¬ (i < 0) := by rw [Int32.lt_iff_toInt_lt, z]; omega
  have nj : ¬ (j < 0) := by rw [Int32.lt_iff_toInt_lt, z]; omega
  have nn : ¬ (n < 0) := by rw [Int32.lt_iff_toInt_lt, z]; omega
  have f1 : ¬ (G 12 k - n < i) := by rw [Int32.lt_iff_toInt_lt, zz_sbw g1 s1 pn]; omega
  have f2 : j ≤ G 12 k2 - n := by rw [Int32.le_iff_toInt_le, zz_sbw g2 t1 pn]; omega
  have r1 : ¬ (i < 0 ∨ n < 0 ∨ N (19 + k) < n ∨ N (19 + k) - n < i) := fun w => q1.mp w ⟨pi, pn, pS⟩
  have r2 : ¬ (j < 0 ∨ n < 0 ∨ N (19 + k2) < n ∨ N (19 + k2) - n < j) := fun w => q2.mp w ⟨pj, pn, pS2⟩
  obtain ⟨a, ha, rfl⟩ := nI_of nn
  obtain ⟨b, hb, rfl⟩ := nI_of ni
  obtain ⟨c, hcc, rfl⟩ := nI_of nj
  rw [nI_toInt (by omega), nI_toInt (by omega)] at pS pS2
  have ea : (nI a).toNatClampNeg = a := nI_clamp (by omega)
  have eb : (nI b).toNatClampNeg = b := nI_clamp (by omega)
  have ec : (nI c).toNatClampNeg = c := nI_clamp (by omega)
  rw [show s_move Z N F k (nI b) k2 (nI c) (nI a) = (nI a, Z, N, va_up F (19 + k2) (va_cpy (F (19 + k)) (F (19 + k2)) b c a)) from ((if_neg z0).trans ((if_neg z1).trans ((if_pos z2).trans ((if_neg r1).trans (if_neg r2))))).trans (by rw [ea, eb, ec])] at hc
  rw [show s_mmove Zm G k (nI b) k2 (nI c) (nI a) = (nI a, Zm, va_up (va_up G 14 (zz_pl (fun t => G 13 (24 * k + b + t)) (G 14) 0 a)) 13 (zz_pl (zz_pl (fun t => G 13 (24 * k + b + t)) (G 14) 0 a) (G 13) (24 * k2 + c) a)) from ((if_neg c0).trans ((if_neg c1).trans ((if_pos c2).trans ((if_neg nn).trans ((if_neg ni).trans ((if_neg nj).trans ((if_neg f1).trans (if_pos f2)))))))).trans (by rw [ea, eb, ec]; rfl)] at hm
  refine px_st_of (c := True) hc (by decide) hm (by decide) ?_ (fun _ => rfl)
  refine h.shs (fun _ _ => rfl) (fun _ _ => rfl) (fun y hy => px_up_ne _ _ (by omega)) (fun y hy => ?_) h.1 ?_
  · show va_up (va_up G 14 _) 13 _ y = _
    rw [px_up_ne _ _ (by omega), px_up_ne _ _ (by omega)]
  refine g_sh_k hk2 hS (fun _ _ => rfl) (fun _ _ => rfl) (fun y hy => px_up_ne _ _ hy) (fun _ _ => rfl) (fun _ _ => rfl) (fun y hy => if_neg (by omega)) ⟨b1, b2, ⟨S2, t1, t2⟩, fun _ => ⟨m1, fun y hy => ?_⟩⟩
  show va_up F (19 + k2) _ (19 + k2) y = zz_pl (zz_pl (fun t => G 13 (24 * k + b + t)) (G 14) 0 a) (G 13) (24 * k2 + c) a (24 * k2 + y)
  rw [px_up_self]
  by_cases cy : c ≤ y ∧ y < c + a
  · refine (if_pos cy).trans (Eq.trans ?_ (if_pos (by omega)).symm)
    refine (n2 (b + (y - c)) ?_).trans (Eq.trans ?_ (if_pos (by omega)).symm)
    · rw [s2, nI_clamp (by omega)]; omega
    · show G 13 (24 * k + (b + (y - c))) = G 13 (24 * k + b + (24 * k2 + y - (24 * k2 + c) - 0))
      congr 1
      omega
  · exact (if_neg cy).trans ((m2 y hy).trans (if_neg (by omega)).symm)
end
/-! part 63.places -/
section
theorem zz_fr_in {g f : Nat → Int32} {n j : Nat} (h : j < n) : zz_fr g f n (12 + 4 * j + 2) = g j := by
  unfold zz_fr
  rw [if_pos (by omega), show (12 + 4 * j + 2 - 12) / 4 = j by omega]
theorem zz_fr_out {g f : Nat → Int32} {n j : Nat} (h : ¬ (12 ≤ j ∧ j < 12 + 4 * n ∧ (j - 12) % 4 = 2)) : zz_fr g f n j = f j := if_neg h
theorem st_places (sheet : Int32) : px_st 78 199 [.int sheet] True := by
  intro Z N F Zm G h
  rcases zz_sheet sheet with c | ⟨k, hk, rfl⟩
  · exact px_st_of (c := True) (kc_placesB h.1 sheet c) (by decide) (kc_mplacesB sheet c) (by decide) h (fun _ => rfl)
  have hS := h.2.2.2.2.2.1
  obtain ⟨a1, a2, ⟨S, s1, s2⟩, a4⟩ := hS k hk
  obtain ⟨S0, u1, u2⟩ := h.SN hk
  have hM := h.M
  have hc := kc_places (Z := Z) (F := F) h.1 k hk u1 u2 hM.2.2.2 hM.2.1
  have hm := kc_mplaces (Z := Zm) (F := G) k hk s2 s1 hM.1 hM.2.1
  by_cases c0 : G 11 k = 0
  · rw [show s_places S0 (G 0 10).toNatClampNeg Z N F k = (-1000000000 - 2, Z, N, F) from if_pos (a1.trans c0)] at hc
    rw [show s_mplaces S (G 0 10).toNatClampNeg Zm G k = (-1000000000 - 2, Zm, G) from if_neg (by unfold s_lacks; rw [if_pos c0]; decide)] at hm
    exact px_st_of (c := True) hc (by decide) hm (by decide) h (fun _ => rfl)
  have z0 : ¬ (Z (2 + k) = 0) := fun q => c0 (a1.symm.trans q)
  obtain ⟨n1, n2⟩ := a4 c0
  have eS : S0 = S := (nI_eq (by omega) (by omega)).mp (u1.symm.trans (n1.trans s2))
  subst eS
  rw [s2, nI_clamp (by omega)] at n2
  obtain ⟨M, eM⟩ : ∃ M : Nat, (G 0 10).toNatClampNeg = M := ⟨_, rfl⟩
  have hM6 : M ≤ 6 := by rw [← eM]; exact hM.2.1
  rw [eM] at hc hm
  have er : zz_run (s_plp F k) (min S0 M) 0 = zz_run (s_mplp G k) (min S0 M) 0 := by
    refine zz_run_congr _ _ (fun j h1 h2 => ?_)
    unfold s_plp s_mplp
    rw [n2 j (by omega)]
    exact decide_eq_decide.mpr px_out
  have hl := zz_run_le (s_mplp G k) (min S0 M) 0
  have hp := zz_run_lt (s_mplp G k) (min S0 M) 0
  rw [show s_places S0 M Z N F k = (nI (zz_run (s_plp F k) (min S0 M) 0), Z, N, va_up F 3 (zz_pl (F (19 + k)) (F 3) 0 (zz_run (s_plp F k) (min S0 M) 0))) from if_neg z0, er] at hc
  rw [show s_mplaces S0 M Zm G k = (nI (zz_run (s_mplp G k) (min S0 M) 0), Zm, va_up G 0 (zz_fr (fun t => G 13 (24 * k + t)) (G 0) (zz_run (s_mplp G k) (min S0 M) 0))) from if_pos (by unfold s_lacks; rw [if_neg c0])] at hm
  generalize zz_run (s_mplp G k) (min S0 M) 0 = r at hc hm hl hp
  refine px_st_of (c := True) hc (by decide) hm (by decide) ?_ (fun _ => rfl)
  refine h.things (fun j hj => zz_fr_out (by omega)) (fun j hj => px_up_ne F _ (by omega)) (fun n hn => ?_)
  rw [eM] at hn
  have hh := h.th (n := n) (by omega)
  have f0 : zz_fr (fun t => G 13 (24 * k + t)) (G 0) r (12 + 4 * n + 0) = G 0 (12 + 4 * n + 0) := zz_fr_out (by omega)
  have f1 : zz_fr (fun t => G 13 (24 * k + t)) (G 0) r (12 + 4 * n + 1) = G 0 (12 + 4 * n + 1) := zz_fr_out (by omega)
  have f3 : zz_fr (fun t => G 13 (24 * k + t)) (G 0) r (12 + 4 * n + 3) = G 0 (12 + 4 * n + 3) := zz_fr_out (by omega)
  show (_ ∧ _ ∧ _ ∧ _) ∧ F 1 n = _ ∧ F 2 n = _ ∧ zz_pl (F (19 + k)) (F 3) 0 r n = _ ∧ F 4 n = _
  rw [f0, f1, f3]
  by_cases cn : n < r
  · have f2 : zz_fr (fun t => G 13 (24 * k + t)) (G 0) r (12 + 4 * n + 2) = G 13 (24 * k + n) := zz_fr_in cn
    have hv := of_decide_eq_true (hp n (by omega) cn)
    obtain ⟨a, -, ha, ea⟩ := zz_rng (a := 0) (b := 4000) (by omega) (by omega) hv.1 hv.2
    rw [f2]
    refine ⟨⟨hh.1.1, hh.1.2.1, ⟨a, ha, ea⟩, hh.1.2.2.2⟩, hh.2.1, hh.2.2.1, ?_, hh.2.2.2.2⟩
    exact (if_pos (by omega)).trans (n2 n (by omega))
  · have f2 : zz_fr (fun t => G 13 (24 * k + t)) (G 0) r (12 + 4 * n + 2) = G 0 (12 + 4 * n + 2) := zz_fr_out (by omega)
    rw [f2]
    refine ⟨hh.1, hh.2.1, hh.2.2.1, ?_, hh.2.2.2.2⟩
    exact (if_neg (by omega)).trans hh.2.2.2.1
end
/-! part 64.feed -/
section
theorem zz_sh8 (word : Int64) {a : UInt64} {b : Int64} {s : Nat} (hs : s ≤ 56) (ha : a.toNat % 64 = s) (hb : (b.toBitVec.smod 64#64).toNat = s) : ((word.toUInt64 >>> a).toInt64).toInt32 &&& 255 = ((word >>> b) &&& 255).toInt32 := by
  apply Int32.toBitVec_inj.mp
  apply BitVec.eq_of_getLsbD_eq
  intro i hi
  have e255 : (255#32).getLsbD i = decide (i < 8) := by
    have key : ∀ i : Fin 32, (255#32).getLsbD i.1 = decide (i.1 < 8) := by decide
    exact key ⟨i, hi⟩
  have h64 : i < 64 := by omega
  by_cases c : i < 8
  · have c2 : s + i < 64 := by omega
    simp [BitVec.getLsbD_signExtend, BitVec.getLsbD_sshiftRight, e255, ha, hb, c]
    rw [if_pos h64, if_pos h64, if_pos c2, decide_eq_false (Nat.not_le.mpr h64)]
    rfl
  · simp [BitVec.getLsbD_signExtend, BitVec.getLsbD_sshiftRight, e255, ha, hb, c]
theorem zz_byte (word : Int64) {k : Nat} (hk : k < 8) : s_byte word k = s_mbyte word k := by
  have key : ∀ k : Fin 8, (((8 * nI k.1).toInt64.toUInt64 &&& Int64.toUInt64 63).toNat % 64 = 8 * k.1) ∧ ((((8 * nI k.1).toInt64 &&& 63).toBitVec.smod 64#64).toNat = 8 * k.1) := by decide +kernel
  exact zz_sh8 word (s := 8 * k) (by omega) (key ⟨k, hk⟩).1 (key ⟨k, hk⟩).2
theorem zz_and255 (x : Int32) : ∃ k : Nat, k < 256 ∧ x &&& 255 = nI k := by
  have h1 : (x &&& 255).toBitVec.toNat < 256 := by
    rw [Int32.toBitVec_and, BitVec.toNat_and]
    exact Nat.lt_of_le_of_lt Nat.and_le_right (by decide)
  refine ⟨_, h1, ?_⟩
  apply Int32.toBitVec_inj.mp
  apply BitVec.eq_of_toNat_eq
  have e : (nI (x &&& 255).toBitVec.toNat).toBitVec.toNat = (x &&& 255).toBitVec.toNat % 2 ^ 32 := by
    show (Int32.ofNat _).toBitVec.toNat = _
    simp
    exact (Nat.mod_eq_of_lt (Nat.lt_of_le_of_lt Nat.and_le_right (by decide))).symm
  rw [e, Nat.mod_eq_of_lt (by omega)]
theorem zz_mbyte (word : Int64) {k : Nat} (hk : k < 8) : ∃ b : Nat, b < 256 ∧ s_mbyte word k = nI b := by
  rw [← zz_byte word hk]
  exact zz_and255 _
theorem st_feed (word : Int64) (n : Int32) : px_st 57 125 [.long word, .int n] True := by
  intro Z N F Zm G h
  obtain ⟨P, hP, eG, eN⟩ := h.P
  have hc := kc_feed (Z := Z) (F := F) h.1 eN hP word n
  have hm := kc_mfeed (Z := Zm) (F := G) eG hP word n
  by_cases c1 : 1 ≤ n ∧ n ≤ 8
  case neg =>
    rw [show s_mfeed P Zm G word n = (-1000000000 - 1, Zm, G) from if_neg c1] at hm
    by_cases c2 : n < 1
    · rw [show s_feed P Z N F word n = (-1000000000 - 1, Z, N, F) from if_pos c2] at hc
      exact px_st_of (c := True) hc (by decide) hm (by decide) h (fun _ => rfl)
    · rw [show s_feed P Z N F word n = (-1000000000 - 1, Z, N, F) from (if_neg c2).trans (if_neg (fun q => c1 ⟨Int32.not_lt.mp c2, q⟩))] at hc
      exact px_st_of (c := True) hc (by decide) hm (by decide) h (fun _ => rfl)
  have c2 : ¬ (n < 1) := Int32.not_lt.mpr c1.1
  obtain ⟨m, hm1, hm8, rfl⟩ := zz_rng (a := 1) (b := 8) (by omega) (by omega) c1.1 c1.2
  have em : (nI m).toNatClampNeg = m := nI_clamp (by omega)
  have i60 : (60 : Int32).toInt = 60 := rfl
  have q1 : nI m ≤ 60 - N 5 ↔ P + m ≤ 60 := by
    rw [eN, Int32.le_iff_toInt_le, zz_sbt i60 (nI_toInt (n := P) (by omega)) (by omega) (by omega), nI_toInt (by omega)]
    omega
  have q2 : G 0 8 + nI m ≤ 60 ↔ P + m ≤ 60 := by
    rw [eG, Int32.le_iff_toInt_le, zz_add (nI_toInt (n := P) (by omega)) (nI_toInt (n := m) (by omega)) (by omega) (by omega), i60]
    omega
  by_cases c3 : P + m ≤ 60
  case neg =>
    rw [show s_feed P Z N F word (nI m) = (-1000000000 - 4, Z, N, F) from (if_neg c2).trans ((if_pos c1.2).trans (if_neg (fun q => c3 (q1.mp q))))] at hc
    rw [show s_mfeed P Zm G word (nI m) = (-1000000000 - 4, Zm, G) from (if_pos c1).trans (if_neg (fun q => c3 (q2.mp q)))] at hm
    exact px_st_of (c := True) hc (by decide) hm (by decide) h (fun _ => rfl)
  have e8 : zz_fd word (G 0) P m 8 = nI (P + m) := px_upd_self _ _ _
  have hne : ∀ {j : Nat}, j ≠ 8 → ¬ (286 + P ≤ j ∧ j < 286 + P + m) → zz_fd word (G 0) P m j = G 0 j := fun h1 h2 => (px_upd_ne _ _ h1).trans (if_neg h2)
  rw [show s_feed P Z N F word (nI m) = (nI (P + m), Z, upd N 5 (nI (P + m)), va_up F 5 (zz_pl (s_byte word) (F 5) P m)) from ((if_neg c2).trans ((if_pos c1.2).trans (if_pos (q1.mpr c3)))).trans (by rw [em])] at hc
  rw [show s_mfeed P Zm G word (nI m) = (nI (P + m), Zm, va_up G 0 (zz_fd word (G 0) P m)) from ((if_pos c1).trans (if_pos (q2.mpr c3))).trans (by rw [em, e8])] at hm
  refine px_st_of (c := True) hc (by decide) hm (by decide) ?_ (fun _ => rfl)
  refine RR.now h (fun _ _ => rfl) (fun j hj => px_upd_ne _ _ (by omega)) (fun j hj => px_up_ne F _ (by omega)) (h.1.upd (by decide) (by decide) (by decide) (px_lim_n (L := 60) (by omega) (by omega))) ?_ ?_ ⟨fun i hi => ?_, h.tt.2.1.cg rfl (fun _ _ => rfl) (fun j h1 h2 => hne (by omega) (by omega)), h.tt.2.2.cg rfl (fun _ _ => rfl) (fun j h1 h2 => hne (by omega) (by omega))⟩
  rotate_left 2
  · rw [e8, nI_clamp (by omega)] at hi
    by_cases ci : P ≤ i
    · obtain ⟨b, b1, b2⟩ := zz_mbyte word (k := i - P) (by omega)
      refine ⟨b, b1, ?_⟩
      refine (px_upd_ne _ _ (by omega)).trans ((if_pos (by omega)).trans ?_)
      rw [show 286 + i - (286 + P) = i - P by omega]
      exact b2
    · rw [hne (by omega) (by omega)]
      exact h.tt.1 i (by rw [eG, nI_clamp (by omega)]; omega)
  · obtain ⟨W, w1, w2, -⟩ := h.W
    exact g_row_hi h.2.1 (fun j hj => hne (by omega) (by omega)) ⟨P + m, by omega, e8⟩ ⟨W, w1, (hne (by omega) (by omega)).trans w2⟩
  · obtain ⟨a1, a2, ⟨a3, a4⟩, ⟨a5, a6, a7, a8⟩, a9, a10, a11⟩ := h.2.2.1
    have hM := h.M
    refine ⟨fun i hi => (a1 i hi).trans (hne (by omega) (by omega)).symm, a2.trans (hne (by omega) (by omega)).symm, ⟨e8.symm, a4.trans (hne (by omega) (by omega)).symm⟩, ?_, fun n hn => ?_, fun i hi => ?_, fun i hi => ?_⟩
    · rw [hne (j := 10) (by omega) (by omega)]; exact ⟨a5, a6, a7, a8⟩
    · rw [hne (j := 10) (by omega) (by omega)] at hn
      rw [hne (j := 12 + 4 * n + 0) (by omega) (by omega), hne (j := 12 + 4 * n + 1) (by omega) (by omega), hne (j := 12 + 4 * n + 2) (by omega) (by omega), hne (j := 12 + 4 * n + 3) (by omega) (by omega)]
      exact a9 n hn
    · rw [e8, nI_clamp (by omega)] at hi
      show zz_pl (s_byte word) (F 5) P m i = _
      refine Eq.trans ?_ (px_upd_ne _ _ (by omega)).symm
      by_cases ci : P ≤ i ∧ i < P + m
      · refine (if_pos ci).trans (Eq.trans ?_ (if_pos (by omega)).symm)
        rw [zz_byte word (by omega), show 286 + i - (286 + P) = i - P by omega]
      · refine (if_neg ci).trans (Eq.trans ?_ (if_neg (by omega)).symm)
        exact a10 i (by rw [eG, nI_clamp (by omega)]; omega)
    · obtain ⟨W, w1, w2, -⟩ := h.W
      rw [hne (j := 9) (by omega) (by omega)] at hi
      rw [hne (j := 346 + i) (by omega) (by omega)]
      exact a11 i hi
end
/-! part 65.loose -/
section
theorem i_rem_n {a b : Nat} (ha : a < 2 ^ 31) (hb : b < 100000) (h0 : 0 < b) : i_rem (nI a) (nI b) = nI (a % b) := by
  unfold i_rem
  rw [if_neg (fun q => by have := (nI_eq (b := 0) (by omega) (by omega)).mp q; omega), zz_rem ha (by omega)]
/-- z and the first piece change -/
theorem RR.zs {Z N Zm : Nat → Int32} {F G : Nat → Nat → Int32} (h : RR Z N F Zm G) {s : Nat} (h1 : 1 ≤ s) (h2 : s ≤ fT (G 0)) (d : Int32) : RR (upd Z 0 d) N (va_up F 0 (upd (F 0) 6 (nI s))) Zm (va_up G 0 (upd (upd (G 0) 7 d) 6 (nI s))) := by
  have hne : ∀ {j : Nat}, j ≠ 6 → j ≠ 7 → upd (upd (G 0) 7 d) 6 (nI s) j = G 0 j := fun c1 c2 => by rw [px_upd_ne _ _ c1, px_upd_ne _ _ c2]
  refine RR.now h (fun j hj => px_upd_ne _ _ hj) (fun _ _ => rfl) (fun j hj => px_up_ne F _ (by omega)) h.1 ?_ ?_ (h.tt.cg ⟨rfl, rfl⟩ ⟨rfl, rfl⟩ (fun j hj => hne (by omega) (by omega)))
  · refine g_row_lo (fun j hj => hne (by omega) (by omega)) h.2.1 (g_wall_congr (g_start h.wall h1 h2) (fun j hj => ?_))
    by_cases c : j = 6
    · subst c; rw [px_upd_self, px_upd_self]
    · rw [hne c (by omega), px_upd_ne _ _ c]
  · refine g_rel_lo h.2.2.1 ?_ (fun j hj => hne (by omega) (by omega)) (fun i hi => ?_)
    · rw [px_upd_self, px_upd_ne _ _ (by omega), px_upd_self]
    · by_cases c : i = 6
      · subst c; rw [px_upd_self, px_upd_self]
      · rw [hne c (by omega), px_upd_ne _ _ c]; exact h.F0 hi
/-- a THING hangs elsewhere -/
theorem RR.hangTo {Z N Zm : Nat → Int32} {F G : Nat → Nat → Int32} (h : RR Z N F Zm G) {t a : Nat} (ht : t < (G 0 10).toNatClampNeg) (a2 : a ≤ 4000) : RR Z N (va_up F 3 (upd (F 3) t (nI a))) Zm (va_up G 0 (upd (G 0) (12 + 4 * t + 2) (nI a))) := by
  have hM := h.M
  refine h.things (fun j hj => px_upd_ne _ _ (by omega)) (fun j hj => px_up_ne F _ (by omega)) (fun n hn => ?_)
  have hh := h.th hn
  by_cases cn : n = t
  · subst cn
    refine ⟨⟨?_, ?_, ⟨a, a2, px_upd_self _ _ _⟩, ?_⟩, ?_, ?_, ?_, ?_⟩
    · rw [px_upd_ne _ _ (by omega)]; exact hh.1.1
    · rw [px_upd_ne _ _ (by omega)]; exact hh.1.2.1
    · rw [px_upd_ne _ _ (by omega)]; exact hh.1.2.2.2
    · rw [px_upd_ne _ _ (by omega)]; exact hh.2.1
    · rw [px_upd_ne _ _ (by omega)]; exact hh.2.2.1
    · rw [px_upd_self]; exact px_upd_self _ _ _
    · rw [px_upd_ne _ _ (by omega)]; exact hh.2.2.2.2
  · refine ⟨?_, ?_, ?_, ?_, ?_⟩
    · unfold g_th
      rw [px_upd_ne _ _ (by omega), px_upd_ne _ _ (by omega), px_upd_ne _ _ (by omega), px_upd_ne _ _ (by omega)]; exact hh.1
    · rw [px_upd_ne _ _ (by omega)]; exact hh.2.1
    · rw [px_upd_ne _ _ (by omega)]; exact hh.2.2.1
    · rw [px_upd_ne _ _ (by omega)]; exact (px_upd_ne _ _ cn).trans hh.2.2.2.1
    · rw [px_upd_ne _ _ (by omega)]; exact hh.2.2.2.2
theorem zz_g3 (f : Nat → Int32) (d1 d2 d3 s : Int32) : upd (upd (upd (upd f 7 d1) 6 s) 7 d2) 7 d3 = upd (upd f 7 d3) 6 s := by
  funext j
  unfold upd
  by_cases c : j = 7
  · subst c; rfl
  · simp [c]
def zz_sc (dr : Int32 → Nat) (dz : Int32 → Int32) (Z N : Nat → Int32) (F : Nat → Nat → Int32)  : (Nat → Int32) × (Nat → Int32) × (Nat → Nat → Int32) := (if (N 1) ≤ 0 then ((upd Z 0 (dz (Z 0))), N, (va_up F 0 (upd (F 0) 6 (1 + (i_rem (nI (dr (Z 0))) ((F 0) 1)))))) else ((upd (upd (upd Z 0 (dz (Z 0))) 0 (dz (dz (Z 0)))) 0 (dz (dz (dz (Z 0))))), N, (va_up (va_up F 0 (upd (F 0) 6 (1 + (i_rem (nI (dr (Z 0))) ((F 0) 1))))) 3 (upd (F 3) ((i_rem (nI (dr (dz (Z 0)))) (N 1))).toNatClampNeg (i_rem (nI (dr (dz (dz (Z 0))))) (((upd (F 0) 6 (1 + (i_rem (nI (dr (Z 0))) ((F 0) 1)))) 0) + 1))))))
theorem zz_sc_eq (Z N : Nat → Int32) (F : Nat → Nat → Int32) : s_chg Z N F = zz_sc zz_dr zz_dz Z N F := by
  unfold s_chg zz_sc
  rfl
theorem RR.chgA {dr : Int32 → Nat} {dz : Int32 → Int32} (hdr : ∀ z : Int32, dr z < 16777216) {Z N Zm : Nat → Int32} {F G : Nat → Nat → Int32} (h : RR Z N F Zm G) {L T M : Nat} (hL : G 0 0 = nI L) (hL4 : L ≤ 4000) (hT : G 0 1 = nI T) (hT1 : 1 ≤ T) (hT2 : T ≤ 200) (hM : G 0 10 = nI M) (hM6 : M ≤ 6) : RR (zz_sc dr dz Z N F).1 N (zz_sc dr dz Z N F).2.2 Zm (va_up G 0 (s_mchg dr dz L T M (G 0))) := by
  have eZ : Z 0 = G 0 7 := h.2.2.1.2.1
  have eN : N 1 = nI M := h.2.2.1.2.2.2.1.1.trans hM
  have f0 : F 0 0 = nI L := (h.F0 (by decide)).trans hL
  have f1 : F 0 1 = nI T := (h.F0 (by decide)).trans hT
  have fTT : fT (G 0) = T := by unfold fT; rw [hT, nI_clamp (by omega)]
  have hMl : (G 0 10).toNatClampNeg = M := by rw [hM, nI_clamp (by omega)]
  have b1 := hdr (G 0 7)
  have b2 := hdr (dz (G 0 7))
  have b3 := hdr (dz (dz (G 0 7)))
  unfold zz_sc s_mchg
  rw [eZ, eN, f1]
  generalize dr (dz (dz (G 0 7))) = r3 at *
  generalize dr (dz (G 0 7)) = r2 at *
  generalize dr (G 0 7) = r1 at *
  generalize dz (dz (dz (G 0 7))) = d3 at *
  generalize dz (dz (G 0 7)) = d2 at *
  generalize dz (G 0 7) = d1 at *
  have es : 1 + i_rem (nI r1) (nI T) = nI (1 + r1 % T) := by rw [i_rem_n (by omega) (by omega) (by omega), Nat.add_comm, nI_succ]; exact Int32.add_comm _ _
  have es2 : 1 + nI (r1 % T) = nI (1 + r1 % T) := by rw [Nat.add_comm, nI_succ]; exact Int32.add_comm _ _
  have hlt := Nat.mod_lt r1 (show T > 0 by omega)
  rw [es, es2]
  have e10 : upd (upd (G 0) 7 d1) 6 (nI (1 + r1 % T)) 10 = nI M := by rw [px_upd_ne _ _ (by omega), px_upd_ne _ _ (by omega), hM]
  rw [e10]
  by_cases c : nI M ≤ 0
  · rw [if_pos c, if_pos c]
    exact h.zs (by omega) (by omega) d1
  · rw [if_neg c, if_neg c]
    have hM0 : 0 < M := Nat.pos_of_ne_zero (fun q => c (by subst q; decide))
    have e0 : upd (F 0) 6 (nI (1 + r1 % T)) 0 + 1 = nI (L + 1) := by rw [px_upd_ne _ _ (by omega), f0, nI_succ]
    have lt3 := Nat.mod_lt r3 (show L + 1 > 0 by omega)
    have lt2 := Nat.mod_lt r2 (show M > 0 by omega)
    have k0 := h.zs (s := 1 + r1 % T) (by omega) (by omega) d3
    have k := RR.hangTo k0 (t := r2 % M) (a := r3 % (L + 1)) (by
      show (upd (upd (G 0) 7 d3) 6 (nI (1 + r1 % T)) 10).toNatClampNeg > _
      rw [px_upd_ne _ _ (by omega), px_upd_ne _ _ (by omega), hMl]; exact lt2) (by omega)
    rw [px_up_up] at k
    dsimp only
    rw [e0, i_rem_n (a := r3) (by omega) (by omega) (by omega), i_rem_n (a := r2) (by omega) (by omega) hM0, nI_clamp (by omega), zz_uu, zz_uu, zz_g3]
    exact k
theorem RR.chg {Z N Zm : Nat → Int32} {F G : Nat → Nat → Int32} (h : RR Z N F Zm G) {L T M : Nat} (hL : G 0 0 = nI L) (hL4 : L ≤ 4000) (hT : G 0 1 = nI T) (hT1 : 1 ≤ T) (hT2 : T ≤ 200) (hM : G 0 10 = nI M) (hM6 : M ≤ 6) : RR (s_chg Z N F).1 N (s_chg Z N F).2.2 Zm (va_up G 0 (s_mchg zz_dr zz_dz L T M (G 0))) := by
  rw [zz_sc_eq]
  exact RR.chgA zz_dr_lt h hL hL4 hT hT1 hT2 hM hM6
theorem RR.chgs {Zm : Nat → Int32} {N : Nat → Int32} {L T M : Nat} (hL4 : L ≤ 4000) (hT1 : 1 ≤ T) (hT2 : T ≤ 200) (hM6 : M ≤ 6) : ∀ (m : Nat) (Z : Nat → Int32) (F G : Nat → Nat → Int32), RR Z N F Zm G → G 0 0 = nI L → G 0 1 = nI T → G 0 10 = nI M → RR (s_chgs N m Z F).1 N (s_chgs N m Z F).2 Zm (va_up G 0 (s_mchgs zz_dr zz_dz L T M m (G 0)))
  | 0, Z, F, G, h, _, _, _ => by
      have e : va_up G 0 (s_mchgs zz_dr zz_dz L T M 0 (G 0)) = G := by
        funext j
        by_cases c : j = 0
        · subst c; exact px_up_self _ _ _
        · exact px_up_ne _ _ c
      rw [e]
      exact h
  | m + 1, Z, F, G, h, hL, hT, hM => by
      have k := h.chg hL hL4 hT hT1 hT2 hM hM6
      have k2 := RR.chgs hL4 hT1 hT2 hM6 m _ _ _ k ((s_mchg_keep (G 0) 0 (by omega) (by omega) (by omega)).trans hL) ((s_mchg_keep (G 0) 1 (by omega) (by omega) (by omega)).trans hT) ((s_mchg_keep (G 0) 10 (by omega) (by omega) (by omega)).trans hM)
      rw [px_up_up] at k2
      exact k2
theorem st_loose (n : Int32) : px_st 65 174 [.int n] True := by
  intro Z N F Zm G h
  have hM := h.M
  have hTJ := (g_TJR h.wall).1
  have hL : ∃ L : Nat, L ≤ 4000 ∧ G 0 0 = nI L := by
    obtain ⟨L, T, J, R, B, S, h0, h1', h2', h4, h5, h6, a1, a2, a3, a4, a5, a6, a7, a8, a9, a10, k1, k2⟩ := h.wall
    exact ⟨L, by omega, h0⟩
  obtain ⟨L, l1, l2⟩ := hL
  have hc := kc_loose (Z := Z) (F := F) h.1 h.hT hM.2.2.1 hM.2.1 n
  have hm := kc_mloose (Z := Zm) (F := G) (show 1 ≤ fT (G 0) by omega) hTJ.2.2 l1 hM.2.1 hTJ.1 l2 hM.1 n
  by_cases c1 : 1 ≤ n ∧ n ≤ 40
  case neg =>
    rw [show s_mloose L (fT (G 0)) (G 0 10).toNatClampNeg Zm G n = (-1000000000 - 1, Zm, G) from if_neg c1] at hm
    by_cases c2 : n < 1
    · rw [show s_loose Z N F n = (-1000000000 - 1, Z, N, F) from if_pos c2] at hc
      exact px_st_of (c := True) hc (by decide) hm (by decide) h (fun _ => rfl)
    · rw [show s_loose Z N F n = (-1000000000 - 1, Z, N, F) from (if_neg c2).trans (if_neg (fun q => c1 ⟨Int32.not_lt.mp c2, q⟩))] at hc
      exact px_st_of (c := True) hc (by decide) hm (by decide) h (fun _ => rfl)
  have c2 : ¬ (n < 1) := Int32.not_lt.mpr c1.1
  have k := RR.chgs l1 (show 1 ≤ fT (G 0) by omega) hTJ.2.2 hM.2.1 n.toNatClampNeg Z F G h l2 hTJ.1 hM.1
  rw [show s_loose Z N F n = ((((s_chgs N n.toNatClampNeg Z F).2 0) 6), (s_chgs N n.toNatClampNeg Z F).1, N, (s_chgs N n.toNatClampNeg Z F).2) from (if_neg c2).trans (if_pos c1.2)] at hc
  rw [show s_mloose L (fT (G 0)) (G 0 10).toNatClampNeg Zm G n = (((s_mchgs zz_dr zz_dz L (fT (G 0)) (G 0 10).toNatClampNeg n.toNatClampNeg (G 0)) 6), Zm, (va_up G 0 (s_mchgs zz_dr zz_dz L (fT (G 0)) (G 0 10).toNatClampNeg n.toNatClampNeg (G 0)))) from if_pos c1] at hm
  exact px_st_of (c := True) hc (by decide) hm (by decide) k (fun _ => k.F0 (by decide))
end
