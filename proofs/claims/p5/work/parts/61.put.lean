theorem zz_low {b : Int32} (hb : b = 8 ∨ b = 16 ∨ b = 32) (v : Int32) : s_low b v = (v <<< ((32 - b) &&& 31)) >>> ((32 - b) &&& 31) := by
  unfold s_low
  rcases hb with rfl | rfl | rfl
  · rw [if_pos rfl, show ((32 : Int32) - 8) &&& 31 = 24 from by decide]
    apply Int32.toBitVec_inj.mp
    rw [Int32.toBitVec_shiftRight, Int32.toBitVec_shiftLeft]
    apply BitVec.eq_of_getLsbD_eq
    intro i hi
    have e : (BitVec.smod (24 : Int32).toBitVec 32).toNat = 24 := by decide
    have h1 : (BitVec.signExtend 8 v.toBitVec)[7] = v.toBitVec[7] := by simp [BitVec.getElem_signExtend]
    simp only [Int32.toBitVec_shiftRight, Int32.toBitVec_shiftLeft, Int8.toBitVec_toInt32, Int32.toBitVec_toInt8, BitVec.getLsbD_signExtend, BitVec.sshiftRight_eq', BitVec.shiftLeft_eq', BitVec.getLsbD_sshiftRight, BitVec.getLsbD_shiftLeft, BitVec.msb_eq_getLsbD_last, e]
    by_cases c : i < 8
    · have c2 : 24 + i < 32 := by omega
      simp [hi, c, c2, Nat.not_le.mpr hi, h1]
    · have c2 : ¬ (24 + i < 32) := by omega
      simp [hi, c, c2, Nat.not_le.mpr hi, h1]
  · rw [if_neg (by decide), if_pos rfl, show ((32 : Int32) - 16) &&& 31 = 16 from by decide]
    apply Int32.toBitVec_inj.mp
    rw [Int32.toBitVec_shiftRight, Int32.toBitVec_shiftLeft]
    apply BitVec.eq_of_getLsbD_eq
    intro i hi
    have e : (BitVec.smod (16 : Int32).toBitVec 32).toNat = 16 := by decide
    have h1 : (BitVec.signExtend 16 v.toBitVec)[15] = v.toBitVec[15] := by simp [BitVec.getElem_signExtend]
    simp only [Int16.toBitVec_toInt32, Int32.toBitVec_toInt16, BitVec.getLsbD_signExtend, BitVec.sshiftRight_eq', BitVec.shiftLeft_eq', BitVec.getLsbD_sshiftRight, BitVec.getLsbD_shiftLeft, BitVec.msb_eq_getLsbD_last, e]
    by_cases c : i < 16
    · have c2 : 16 + i < 32 := by omega
      simp [hi, c, c2, Nat.not_le.mpr hi, h1]
    · have c2 : ¬ (16 + i < 32) := by omega
      simp [hi, c, c2, Nat.not_le.mpr hi, h1]
  · rw [if_neg (by decide), if_neg (by decide), show ((32 : Int32) - 32) &&& 31 = 0 from by decide]
    simp
theorem st_put (sheet i v : Int32) : px_st 76 196 [.int sheet, .int i, .int v] True := by
  intro Z N F Zm G h
  rcases zz_sheet sheet with c | ⟨k, hk, rfl⟩
  · exact px_st_of (c := True) (kc_putB h.1 sheet i v c) (by decide) (kc_mputB sheet i v c) (by decide) h (fun _ => rfl)
  have hS := h.2.2.2.2.2.1
  obtain ⟨a1, a2, ⟨S, s1, s2⟩, a4⟩ := hS k hk
  have hc := kc_put (Z := Z) (F := F) h.1 k hk i v
  have hm := kc_mput (Z := Zm) (F := G) k i v hk s2 s1
  by_cases c0 : G 11 k = 0
  · rw [show s_put Z N F k i v = (-1000000000 - 2, Z, N, F) from if_pos (a1.trans c0)] at hc
    rw [show s_mput Zm G k i v = (-1000000000 - 2, Zm, G) from if_pos c0] at hm
    exact px_st_of (c := True) hc (by decide) hm (by decide) h (fun _ => rfl)
  have z0 : ¬ (Z (2 + k) = 0) := fun q => c0 (a1.symm.trans q)
  obtain ⟨n1, n2⟩ := a4 c0
  have hq := zz_rowq (t := i) s2 (by omega)
  by_cases c : i < 0 ∨ G 12 k ≤ i
  · rw [show s_put Z N F k i v = (-1000000000 - 1, Z, N, F) from (if_neg z0).trans (if_pos (by rw [n1]; exact c))] at hc
    rw [show s_mput Zm G k i v = (-1000000000 - 1, Zm, G) from (if_neg c0).trans (if_neg (fun q => hq.mpr q c))] at hm
    exact px_st_of (c := True) hc (by decide) hm (by decide) h (fun _ => rfl)
  · obtain ⟨t, ht, rfl⟩ := zz_rown s2 (by omega) c
    have et : (nI t).toNatClampNeg = t := nI_clamp (by omega)
    have ez : s_low (Z (2 + k)) v = (v <<< ((32 - G 11 k) &&& 31)) >>> ((32 - G 11 k) &&& 31) := by
      rw [a1]; exact zz_low (a2.resolve_left c0) v
    rw [show s_put Z N F k (nI t) v = (1, Z, N, va_up F (19 + k) (upd (F (19 + k)) t ((v <<< ((32 - G 11 k) &&& 31)) >>> ((32 - G 11 k) &&& 31)))) from ((if_neg z0).trans (if_neg (by rw [n1]; exact c))).trans (by rw [et, ez])] at hc
    rw [show s_mput Zm G k (nI t) v = (1, Zm, va_up G 13 (upd (G 13) (24 * k + t) ((v <<< ((32 - G 11 k) &&& 31)) >>> ((32 - G 11 k) &&& 31)))) from ((if_neg c0).trans (if_pos (hq.mp c))).trans (by rw [et])] at hm
    refine px_st_of (c := True) hc (by decide) hm (by decide) ?_ (fun _ => rfl)
    refine h.shs (fun _ _ => rfl) (fun _ _ => rfl) (fun j hj => px_up_ne _ _ (by omega)) (fun j hj => px_up_ne _ _ (by omega)) h.1 ?_
    refine g_sh_k hk hS (fun _ _ => rfl) (fun _ _ => rfl) (fun j hj => px_up_ne _ _ hj) (fun _ _ => rfl) (fun _ _ => rfl) (fun j hj => px_upd_ne (G 13) _ (by omega)) ⟨a1, a2, ⟨S, s1, s2⟩, fun q => ⟨n1, fun j hj => ?_⟩⟩
    show va_up F (19 + k) _ (19 + k) j = upd (G 13) (24 * k + t) _ (24 * k + j)
    rw [px_up_self]
    by_cases cj : j = t
    · subst cj; rw [px_upd_self, px_upd_self]
    · rw [px_upd_ne _ _ cj, px_upd_ne _ _ (by omega)]
      exact n2 j hj
