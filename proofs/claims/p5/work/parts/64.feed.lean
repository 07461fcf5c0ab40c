theorem zz_sh8 (word : Int64) {a : UInt64} {b : Int64} {s : Nat} (hs : s ≤ 56) (ha : a.toNat % 64 = s) (hb : (b.toBitVec.smod 64#64).toNat = s) : ((word.toUInt64 >>> a).toInt64).toInt32 &&& 255 = ((word >>> b) &&& 255).toInt32 := by
  apply Int32.toBitVec_inj.mp
  apply BitVec.eq_of_getLsbD_eq
  intro i hi
  have e255 : (255#32).getLsbD i = decide (i < 8) := by
    have key : ∀ i : Fin 32, (255#32).getLsbD i.1 = decide (i.1 < 8) := by decide
    exact key ⟨i, hi⟩
  have h64 : i < 64 := by omega
  by_cases c : i < 8
  · have c2 : s + i < 64 := by omega
    simp [BitVec.getLsbD_signExtend, BitVec.getLsbD_sshiftRight, e255, ha, hb, c]
    rw [if_pos h64, if_pos h64, if_pos c2, decide_eq_false (Nat.not_le.mpr h64)]
    rfl
  · simp [BitVec.getLsbD_signExtend, BitVec.getLsbD_sshiftRight, e255, ha, hb, c]
theorem zz_byte (word : Int64) {k : Nat} (hk : k < 8) : s_byte word k = s_mbyte word k := by
  have key : ∀ k : Fin 8, (((8 * nI k.1).toInt64.toUInt64 &&& Int64.toUInt64 63).toNat % 64 = 8 * k.1) ∧ ((((8 * nI k.1).toInt64 &&& 63).toBitVec.smod 64#64).toNat = 8 * k.1) := by decide +kernel
  exact zz_sh8 word (s := 8 * k) (by omega) (key ⟨k, hk⟩).1 (key ⟨k, hk⟩).2
theorem zz_and255 (x : Int32) : ∃ k : Nat, k < 256 ∧ x &&& 255 = nI k := by
  have h1 : (x &&& 255).toBitVec.toNat < 256 := by
    rw [Int32.toBitVec_and, BitVec.toNat_and]
    exact Nat.lt_of_le_of_lt Nat.and_le_right (by decide)
  refine ⟨_, h1, ?_⟩
  apply Int32.toBitVec_inj.mp
  apply BitVec.eq_of_toNat_eq
  have e : (nI (x &&& 255).toBitVec.toNat).toBitVec.toNat = (x &&& 255).toBitVec.toNat % 2 ^ 32 := by
    show (Int32.ofNat _).toBitVec.toNat = _
    simp
    exact (Nat.mod_eq_of_lt (Nat.lt_of_le_of_lt Nat.and_le_right (by decide))).symm
  rw [e, Nat.mod_eq_of_lt (by omega)]
theorem zz_mbyte (word : Int64) {k : Nat} (hk : k < 8) : ∃ b : Nat, b < 256 ∧ s_mbyte word k = nI b := by
  rw [← zz_byte word hk]
  exact zz_and255 _
theorem st_feed (word : Int64) (n : Int32) : px_st 57 125 [.long word, .int n] True := by
  intro Z N F Zm G h
  obtain ⟨P, hP, eG, eN⟩ := h.P
  have hc := kc_feed (Z := Z) (F := F) h.1 eN hP word n
  have hm := kc_mfeed (Z := Zm) (F := G) eG hP word n
  by_cases c1 : 1 ≤ n ∧ n ≤ 8
  case neg =>
    rw [show s_mfeed P Zm G word n = (-1000000000 - 1, Zm, G) from if_neg c1] at hm
    by_cases c2 : n < 1
    · rw [show s_feed P Z N F word n = (-1000000000 - 1, Z, N, F) from if_pos c2] at hc
      exact px_st_of (c := True) hc (by decide) hm (by decide) h (fun _ => rfl)
    · rw [show s_feed P Z N F word n = (-1000000000 - 1, Z, N, F) from (if_neg c2).trans (if_neg (fun q => c1 ⟨Int32.not_lt.mp c2, q⟩))] at hc
      exact px_st_of (c := True) hc (by decide) hm (by decide) h (fun _ => rfl)
  have c2 : ¬ (n < 1) := Int32.not_lt.mpr c1.1
  obtain ⟨m, hm1, hm8, rfl⟩ := zz_rng (a := 1) (b := 8) (by omega) (by omega) c1.1 c1.2
  have em : (nI m).toNatClampNeg = m := nI_clamp (by omega)
  have i60 : (60 : Int32).toInt = 60 := rfl
  have q1 : nI m ≤ 60 - N 5 ↔ P + m ≤ 60 := by
    rw [eN, Int32.le_iff_toInt_le, zz_sbt i60 (nI_toInt (n := P) (by omega)) (by omega) (by omega), nI_toInt (by omega)]
    omega
  have q2 : G 0 8 + nI m ≤ 60 ↔ P + m ≤ 60 := by
    rw [eG, Int32.le_iff_toInt_le, zz_add (nI_toInt (n := P) (by omega)) (nI_toInt (n := m) (by omega)) (by omega) (by omega), i60]
    omega
  by_cases c3 : P + m ≤ 60
  case neg =>
    rw [show s_feed P Z N F word (nI m) = (-1000000000 - 4, Z, N, F) from (if_neg c2).trans ((if_pos c1.2).trans (if_neg (fun q => c3 (q1.mp q))))] at hc
    rw [show s_mfeed P Zm G word (nI m) = (-1000000000 - 4, Zm, G) from (if_pos c1).trans (if_neg (fun q => c3 (q2.mp q)))] at hm
    exact px_st_of (c := True) hc (by decide) hm (by decide) h (fun _ => rfl)
  have e8 : zz_fd word (G 0) P m 8 = nI (P + m) := px_upd_self _ _ _
  have hne : ∀ {j : Nat}, j ≠ 8 → ¬ (286 + P ≤ j ∧ j < 286 + P + m) → zz_fd word (G 0) P m j = G 0 j := fun h1 h2 => (px_upd_ne _ _ h1).trans (if_neg h2)
  rw [show s_feed P Z N F word (nI m) = (nI (P + m), Z, upd N 5 (nI (P + m)), va_up F 5 (zz_pl (s_byte word) (F 5) P m)) from ((if_neg c2).trans ((if_pos c1.2).trans (if_pos (q1.mpr c3)))).trans (by rw [em])] at hc
  rw [show s_mfeed P Zm G word (nI m) = (nI (P + m), Zm, va_up G 0 (zz_fd word (G 0) P m)) from ((if_pos c1).trans (if_pos (q2.mpr c3))).trans (by rw [em, e8])] at hm
  refine px_st_of (c := True) hc (by decide) hm (by decide) ?_ (fun _ => rfl)
  refine RR.now h (fun _ _ => rfl) (fun j hj => px_upd_ne _ _ (by omega)) (fun j hj => px_up_ne F _ (by omega)) (h.1.upd (by decide) (by decide) (by decide) (px_lim_n (L := 60) (by omega) (by omega))) ?_ ?_ ⟨fun i hi => ?_, h.tt.2.1.cg rfl (fun _ _ => rfl) (fun j h1 h2 => hne (by omega) (by omega)), h.tt.2.2.cg rfl (fun _ _ => rfl) (fun j h1 h2 => hne (by omega) (by omega))⟩
  rotate_left 2
  · rw [e8, nI_clamp (by omega)] at hi
    by_cases ci : P ≤ i
    · obtain ⟨b, b1, b2⟩ := zz_mbyte word (k := i - P) (by omega)
      refine ⟨b, b1, ?_⟩
      refine (px_upd_ne _ _ (by omega)).trans ((if_pos (by omega)).trans ?_)
      rw [show 286 + i - (286 + P) = i - P by omega]
      exact b2
    · rw [hne (by omega) (by omega)]
      exact h.tt.1 i (by rw [eG, nI_clamp (by omega)]; omega)
  · obtain ⟨W, w1, w2, -⟩ := h.W
    exact g_row_hi h.2.1 (fun j hj => hne (by omega) (by omega)) ⟨P + m, by omega, e8⟩ ⟨W, w1, (hne (by omega) (by omega)).trans w2⟩
  · obtain ⟨a1, a2, ⟨a3, a4⟩, ⟨a5, a6, a7, a8⟩, a9, a10, a11⟩ := h.2.2.1
    have hM := h.M
    refine ⟨fun i hi => (a1 i hi).trans (hne (by omega) (by omega)).symm, a2.trans (hne (by omega) (by omega)).symm, ⟨e8.symm, a4.trans (hne (by omega) (by omega)).symm⟩, ?_, fun n hn => ?_, fun i hi => ?_, fun i hi => ?_⟩
    · rw [hne (j := 10) (by omega) (by omega)]; exact ⟨a5, a6, a7, a8⟩
    · rw [hne (j := 10) (by omega) (by omega)] at hn
      rw [hne (j := 12 + 4 * n + 0) (by omega) (by omega), hne (j := 12 + 4 * n + 1) (by omega) (by omega), hne (j := 12 + 4 * n + 2) (by omega) (by omega), hne (j := 12 + 4 * n + 3) (by omega) (by omega)]
      exact a9 n hn
    · rw [e8, nI_clamp (by omega)] at hi
      show zz_pl (s_byte word) (F 5) P m i = _
      refine Eq.trans ?_ (px_upd_ne _ _ (by omega)).symm
      by_cases ci : P ≤ i ∧ i < P + m
      · refine (if_pos ci).trans (Eq.trans ?_ (if_pos (by omega)).symm)
        rw [zz_byte word (by omega), show 286 + i - (286 + P) = i - P by omega]
      · refine (if_neg ci).trans (Eq.trans ?_ (if_neg (by omega)).symm)
        exact a10 i (by rw [eG, nI_clamp (by omega)]; omega)
    · obtain ⟨W, w1, w2, -⟩ := h.W
      rw [hne (j := 9) (by omega) (by omega)] at hi
      rw [hne (j := 346 + i) (by omega) (by omega)]
      exact a11 i hi
