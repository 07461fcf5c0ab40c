theorem px_PW.lc {d : Nat} {code : Nat → Option px_A} {Q : Option Value → px_H → Prop} {pc : Nat} {lv lv' : px_L} {st : List Value} {h : px_H} (e : lv = lv') (k : px_PW d code Q pc lv' st h) : px_PW d code Q pc lv st h := by rw [e]; exact k
theorem nb_getN {Z N : Nat → Int32} {F : Nat → Nat → Int32} {q n L : Nat} (hq : q < 27) (hN : N q = nI L) (hL : L ≤ px_lim q) (hn : n < L) : px_PM 1 6 [.ref (px_O q), .int (nI n)] (px_CH Z N F, []) (fun r h' => r = some (.int (F q n)) ∧ h' = (px_CH Z N F, [])) := by
  have hb := (px_lim_i hq).2
  have h := nb_get (Z := Z) (N := N) (F := F) hq (nI n) (by rw [hN, nI_toInt (by omega)]; omega)
  rw [if_neg (by rw [hN, nI_leI (by omega) (by omega)]; exact fun c => c.elim (nI_pos (by omega)) (by omega)), nI_clamp (by omega)] at h
  exact h
theorem nb_setN {Z N : Nat → Int32} {F : Nat → Nat → Int32} {q n L : Nat} (hq : q < 27) (hN : N q = nI L) (hL : L ≤ px_lim q) (hn : n < L) (v : Int32) : px_PM 1 7 [.ref (px_O q), .int (nI n), .int v] (px_CH Z N F, []) (fun r h' => r = none ∧ h' = (px_CH Z N (va_up F q (upd (F q) n v)), [])) := by
  have hb := (px_lim_i hq).2
  have h := nb_set (Z := Z) (N := N) (F := F) hq (nI n) v (by rw [hN, nI_toInt (by omega)]; omega)
  rw [if_neg (by rw [hN, nI_leI (by omega) (by omega)]; exact fun c => c.elim (nI_pos (by omega)) (by omega)), nI_clamp (by omega)] at h
  exact h
theorem nb_addN {Z N : Nat → Int32} {F : Nat → Nat → Int32} {q n : Nat} (hq : q < 27) (hN : N q = nI n) (hn : n < px_lim q) (v : Int32) : px_PM 1 8 [.ref (px_O q), .int v] (px_CH Z N F, []) (fun r h' => r = none ∧ h' = (px_CH Z (upd N q (nI (n + 1))) (va_up F q (upd (F q) n v)), [])) := by
  have hb := (px_lim_i hq).2
  have h := nb_add (Z := Z) (N := N) (F := F) hq v (by rw [hN]; exact nI_pos' (by omega))
  rw [if_neg (by rw [hN]; exact nI_ge hn (by omega)), if_neg (by rw [hN]; exact nI_ge hn (by omega)), hN, nI_clamp (by omega), ← nI_succ] at h
  exact h
theorem zz_min (a b : Nat) (ha : a < 1000) (hb : b < 1000) : i_min (nI a) (nI b) = nI (min a b) := by
  unfold i_min
  by_cases c : b < a
  · rw [if_pos (nI_lt c (by omega)), show min a b = b by omega]
  · rw [if_neg (nI_nlt (by omega) (by omega)), show min a b = a by omega]
theorem zz_div {a b : Nat} (ha : a < 2 ^ 31) (hb : b < 2 ^ 31) : nI a / nI b = nI (a / b) := by
  apply Int32.toInt_inj.mp
  have h1 : a / b ≤ a := Nat.div_le_self a b
  rw [Int32.toInt_div, nI_toInt ha, nI_toInt hb, nI_toInt (by omega), ← Int.ofNat_tdiv]
  have key : ∀ c : Nat, c ≤ a → (c : Int).bmod (2 ^ 32) = c := fun c hc => Int.bmod_eq_of_le (by omega) (by omega)
  exact key _ h1
theorem zz_mul (a b : Nat) : nI a * nI b = nI (a * b) := (Int32.ofNat_mul a b).symm
theorem zz_sub {a b : Nat} (h : b ≤ a) : nI a - nI b = nI (a - b) := by
  have h2 := nI_add (a - b) b
  rw [show a - b + b = a by omega] at h2
  rw [← h2]
  exact Int32.add_sub_cancel _ _
theorem zz_rem {a b : Nat} (ha : a < 2 ^ 31) (hb : b < 2 ^ 31) : nI a - nI a / nI b * nI b = nI (a % b) := by
  rw [zz_div ha hb, zz_mul, zz_sub (Nat.div_mul_le_self a b), Nat.mod_eq_sub_div_mul]
theorem zz_irem {a b : Nat} (ha : a < 2 ^ 31) (h0 : 0 < b) (hb : b < 2 ^ 31) : i_rem (nI a) (nI b) = nI (a % b) := by
  unfold i_rem
  rw [if_neg (nI_ne0 h0 hb), zz_rem ha hb]
/-- what a draw gives, as a natural number -/
def zz_dr (z : Int32) : Nat := ((z * 1103515245 + 12345).toUInt32 >>> 8).toNat
def zz_dz (z : Int32) : Int32 := z * 1103515245 + 12345
theorem zz_dr_lt (z : Int32) : zz_dr z < 16777216 := by
  unfold zz_dr
  rw [UInt32.toNat_shiftRight, Nat.shiftRight_eq_div_pow]
  have h := UInt32.toNat_lt (z * 1103515245 + 12345).toUInt32
  have e : (8 : UInt32).toNat % 32 = 8 := by decide
  rw [e]
  omega
theorem zz_dr_eq (z : Int32) : ((z * 1103515245 + 12345).toUInt32 >>> (Int32.toUInt32 8 &&& Int32.toUInt32 31)).toInt32 = nI (zz_dr z) := by
  have e : (Int32.toUInt32 8 &&& Int32.toUInt32 31) = 8 := by decide
  rw [e]
  unfold zz_dr nI
  apply Int32.toInt_inj.mp
  rw [Int32.toInt_ofNat_of_lt (by have := zz_dr_lt z; unfold zz_dr at this; omega)]
  have h := zz_dr_lt z
  unfold zz_dr at h
  generalize (z * 1103515245 + 12345).toUInt32 >>> 8 = u at h ⊢
  show u.toBitVec.toInt = _
  rw [BitVec.toInt_eq_toNat_of_lt (by show 2 * u.toNat < 2 ^ 32; omega)]
  rfl
def s_keepN (N : Nat → Int32) : Nat → Int32 := (upd (upd (upd (upd (upd (upd (upd (upd (upd N 9 (N 0)) 10 (N 1)) 11 (N 2)) 12 (N 3)) 13 (N 4)) 14 (N 5)) 15 (N 6)) 16 (N 7)) 17 (N 8))
def s_keepF (N : Nat → Int32) (F : Nat → Nat → Int32) : Nat → Nat → Int32 := (va_up (va_up (va_up (va_up (va_up (va_up (va_up (va_up (va_up F 9 (px_ov (F 0) (F 9) (N 0).toNatClampNeg)) 10 (px_ov (F 1) (F 10) (N 1).toNatClampNeg)) 11 (px_ov (F 2) (F 11) (N 2).toNatClampNeg)) 12 (px_ov (F 3) (F 12) (N 3).toNatClampNeg)) 13 (px_ov (F 4) (F 13) (N 4).toNatClampNeg)) 14 (px_ov (F 5) (F 14) (N 5).toNatClampNeg)) 15 (px_ov (F 6) (F 15) (N 6).toNatClampNeg)) 16 (px_ov (F 7) (F 16) (N 7).toNatClampNeg)) 17 (px_ov (F 8) (F 17) (N 8).toNatClampNeg))
theorem cc_keep {Z N : Nat → Int32} {F : Nat → Nat → Int32} (hw : px_cw N) : px_PM 4 1 [.ref 20, .ref 1] (px_CH Z N F, []) (fun r h' => r = none ∧ h' = (px_CH (upd Z 1 (Z 0)) (s_keepN N) (s_keepF N F), [])) := by
  refine px_PM.start (nL := 2) (code := pc_1) rfl rfl ?_
  refine px_PW.steps kt_1.2 4 rfl ?_
  refine px_PW.callV kt_1.2 rfl rfl rfl rfl (nb_copy (N := N) (q := 9) (p := 0) (by decide) (by decide) (by decide) (hw.nn (q := 0) (by decide)) (hw.lim (q := 0) (by decide)) (hw.lim (q := 0) (by decide))) (by decide) (fun v h1 q => ?_)
  obtain ⟨rfl, rfl⟩ := q
  refine px_PW.steps kt_1.2 4 rfl ?_
  refine px_PW.callV kt_1.2 rfl rfl rfl rfl (nb_copy (N := (upd N 9 (N 0))) (q := 10) (p := 1) (by decide) (by decide) (by decide) (hw.nn (q := 1) (by decide)) (hw.lim (q := 1) (by decide)) (hw.lim (q := 1) (by decide))) (by decide) (fun v h1 q => ?_)
  obtain ⟨rfl, rfl⟩ := q
  refine px_PW.steps kt_1.2 4 rfl ?_
  refine px_PW.callV kt_1.2 rfl rfl rfl rfl (nb_copy (N := (upd (upd N 9 (N 0)) 10 (N 1))) (q := 11) (p := 2) (by decide) (by decide) (by decide) (hw.nn (q := 2) (by decide)) (hw.lim (q := 2) (by decide)) (hw.lim (q := 2) (by decide))) (by decide) (fun v h1 q => ?_)
  obtain ⟨rfl, rfl⟩ := q
  refine px_PW.steps kt_1.2 4 rfl ?_
  refine px_PW.callV kt_1.2 rfl rfl rfl rfl (nb_copy (N := (upd (upd (upd N 9 (N 0)) 10 (N 1)) 11 (N 2))) (q := 12) (p := 3) (by decide) (by decide) (by decide) (hw.nn (q := 3) (by decide)) (hw.lim (q := 3) (by decide)) (hw.lim (q := 3) (by decide))) (by decide) (fun v h1 q => ?_)
  obtain ⟨rfl, rfl⟩ := q
  refine px_PW.steps kt_1.2 4 rfl ?_
  refine px_PW.callV kt_1.2 rfl rfl rfl rfl (nb_copy (N := (upd (upd (upd (upd N 9 (N 0)) 10 (N 1)) 11 (N 2)) 12 (N 3))) (q := 13) (p := 4) (by decide) (by decide) (by decide) (hw.nn (q := 4) (by decide)) (hw.lim (q := 4) (by decide)) (hw.lim (q := 4) (by decide))) (by decide) (fun v h1 q => ?_)
  obtain ⟨rfl, rfl⟩ := q
  refine px_PW.steps kt_1.2 4 rfl ?_
  refine px_PW.callV kt_1.2 rfl rfl rfl rfl (nb_copy (N := (upd (upd (upd (upd (upd N 9 (N 0)) 10 (N 1)) 11 (N 2)) 12 (N 3)) 13 (N 4))) (q := 14) (p := 5) (by decide) (by decide) (by decide) (hw.nn (q := 5) (by decide)) (hw.lim (q := 5) (by decide)) (hw.lim (q := 5) (by decide))) (by decide) (fun v h1 q => ?_)
  obtain ⟨rfl, rfl⟩ := q
  refine px_PW.steps kt_1.2 4 rfl ?_
  refine px_PW.callV kt_1.2 rfl rfl rfl rfl (nb_copy (N := (upd (upd (upd (upd (upd (upd N 9 (N 0)) 10 (N 1)) 11 (N 2)) 12 (N 3)) 13 (N 4)) 14 (N 5))) (q := 15) (p := 6) (by decide) (by decide) (by decide) (hw.nn (q := 6) (by decide)) (hw.lim (q := 6) (by decide)) (hw.lim (q := 6) (by decide))) (by decide) (fun v h1 q => ?_)
  obtain ⟨rfl, rfl⟩ := q
  refine px_PW.steps kt_1.2 4 rfl ?_
  refine px_PW.callV kt_1.2 rfl rfl rfl rfl (nb_copy (N := (upd (upd (upd (upd (upd (upd (upd N 9 (N 0)) 10 (N 1)) 11 (N 2)) 12 (N 3)) 13 (N 4)) 14 (N 5)) 15 (N 6))) (q := 16) (p := 7) (by decide) (by decide) (by decide) (hw.nn (q := 7) (by decide)) (hw.lim (q := 7) (by decide)) (hw.lim (q := 7) (by decide))) (by decide) (fun v h1 q => ?_)
  obtain ⟨rfl, rfl⟩ := q
  refine px_PW.steps kt_1.2 4 rfl ?_
  refine px_PW.callV kt_1.2 rfl rfl rfl rfl (nb_copy (N := (upd (upd (upd (upd (upd (upd (upd (upd N 9 (N 0)) 10 (N 1)) 11 (N 2)) 12 (N 3)) 13 (N 4)) 14 (N 5)) 15 (N 6)) 16 (N 7))) (q := 17) (p := 8) (by decide) (by decide) (by decide) (hw.nn (q := 8) (by decide)) (hw.lim (q := 8) (by decide)) (hw.lim (q := 8) (by decide))) (by decide) (fun v h1 q => ?_)
  obtain ⟨rfl, rfl⟩ := q
  refine px_PW.steps kt_1.2 3 rfl ?_
  refine px_op_1 kt_1.2 rfl ?_
  refine px_PW.ret kt_1.2 rfl rfl ?_
  exact ⟨rfl, rfl⟩
def s_takeN (N : Nat → Int32) : Nat → Int32 := (upd (upd (upd (upd (upd (upd (upd (upd (upd N 0 (N 9)) 1 (N 10)) 2 (N 11)) 3 (N 12)) 4 (N 13)) 5 (N 14)) 6 (N 15)) 7 (N 16)) 8 (N 17))
def s_takeF (N : Nat → Int32) (F : Nat → Nat → Int32) : Nat → Nat → Int32 := (va_up (va_up (va_up (va_up (va_up (va_up (va_up (va_up (va_up F 0 (px_ov (F 9) (F 0) (N 9).toNatClampNeg)) 1 (px_ov (F 10) (F 1) (N 10).toNatClampNeg)) 2 (px_ov (F 11) (F 2) (N 11).toNatClampNeg)) 3 (px_ov (F 12) (F 3) (N 12).toNatClampNeg)) 4 (px_ov (F 13) (F 4) (N 13).toNatClampNeg)) 5 (px_ov (F 14) (F 5) (N 14).toNatClampNeg)) 6 (px_ov (F 15) (F 6) (N 15).toNatClampNeg)) 7 (px_ov (F 16) (F 7) (N 16).toNatClampNeg)) 8 (px_ov (F 17) (F 8) (N 17).toNatClampNeg))
theorem cc_take {Z N : Nat → Int32} {F : Nat → Nat → Int32} (hw : px_cw N) : px_PM 4 1 [.ref 1, .ref 20] (px_CH Z N F, []) (fun r h' => r = none ∧ h' = (px_CH (upd Z 0 (Z 1)) (s_takeN N) (s_takeF N F), [])) := by
  refine px_PM.start (nL := 2) (code := pc_1) rfl rfl ?_
  refine px_PW.steps kt_1.2 4 rfl ?_
  refine px_PW.callV kt_1.2 rfl rfl rfl rfl (nb_copy (N := N) (q := 0) (p := 9) (by decide) (by decide) (by decide) (hw.nn (q := 9) (by decide)) (hw.lim (q := 9) (by decide)) (hw.lim (q := 9) (by decide))) (by decide) (fun v h1 q => ?_)
  obtain ⟨rfl, rfl⟩ := q
  refine px_PW.steps kt_1.2 4 rfl ?_
  refine px_PW.callV kt_1.2 rfl rfl rfl rfl (nb_copy (N := (upd N 0 (N 9))) (q := 1) (p := 10) (by decide) (by decide) (by decide) (hw.nn (q := 10) (by decide)) (hw.lim (q := 10) (by decide)) (hw.lim (q := 10) (by decide))) (by decide) (fun v h1 q => ?_)
  obtain ⟨rfl, rfl⟩ := q
  refine px_PW.steps kt_1.2 4 rfl ?_
  refine px_PW.callV kt_1.2 rfl rfl rfl rfl (nb_copy (N := (upd (upd N 0 (N 9)) 1 (N 10))) (q := 2) (p := 11) (by decide) (by decide) (by decide) (hw.nn (q := 11) (by decide)) (hw.lim (q := 11) (by decide)) (hw.lim (q := 11) (by decide))) (by decide) (fun v h1 q => ?_)
  obtain ⟨rfl, rfl⟩ := q
  refine px_PW.steps kt_1.2 4 rfl ?_
  refine px_PW.callV kt_1.2 rfl rfl rfl rfl (nb_copy (N := (upd (upd (upd N 0 (N 9)) 1 (N 10)) 2 (N 11))) (q := 3) (p := 12) (by decide) (by decide) (by decide) (hw.nn (q := 12) (by decide)) (hw.lim (q := 12) (by decide)) (hw.lim (q := 12) (by decide))) (by decide) (fun v h1 q => ?_)
  obtain ⟨rfl, rfl⟩ := q
  refine px_PW.steps kt_1.2 4 rfl ?_
  refine px_PW.callV kt_1.2 rfl rfl rfl rfl (nb_copy (N := (upd (upd (upd (upd N 0 (N 9)) 1 (N 10)) 2 (N 11)) 3 (N 12))) (q := 4) (p := 13) (by decide) (by decide) (by decide) (hw.nn (q := 13) (by decide)) (hw.lim (q := 13) (by decide)) (hw.lim (q := 13) (by decide))) (by decide) (fun v h1 q => ?_)
  obtain ⟨rfl, rfl⟩ := q
  refine px_PW.steps kt_1.2 4 rfl ?_
  refine px_PW.callV kt_1.2 rfl rfl rfl rfl (nb_copy (N := (upd (upd (upd (upd (upd N 0 (N 9)) 1 (N 10)) 2 (N 11)) 3 (N 12)) 4 (N 13))) (q := 5) (p := 14) (by decide) (by decide) (by decide) (hw.nn (q := 14) (by decide)) (hw.lim (q := 14) (by decide)) (hw.lim (q := 14) (by decide))) (by decide) (fun v h1 q => ?_)
  obtain ⟨rfl, rfl⟩ := q
  refine px_PW.steps kt_1.2 4 rfl ?_
  refine px_PW.callV kt_1.2 rfl rfl rfl rfl (nb_copy (N := (upd (upd (upd (upd (upd (upd N 0 (N 9)) 1 (N 10)) 2 (N 11)) 3 (N 12)) 4 (N 13)) 5 (N 14))) (q := 6) (p := 15) (by decide) (by decide) (by decide) (hw.nn (q := 15) (by decide)) (hw.lim (q := 15) (by decide)) (hw.lim (q := 15) (by decide))) (by decide) (fun v h1 q => ?_)
  obtain ⟨rfl, rfl⟩ := q
  refine px_PW.steps kt_1.2 4 rfl ?_
  refine px_PW.callV kt_1.2 rfl rfl rfl rfl (nb_copy (N := (upd (upd (upd (upd (upd (upd (upd N 0 (N 9)) 1 (N 10)) 2 (N 11)) 3 (N 12)) 4 (N 13)) 5 (N 14)) 6 (N 15))) (q := 7) (p := 16) (by decide) (by decide) (by decide) (hw.nn (q := 16) (by decide)) (hw.lim (q := 16) (by decide)) (hw.lim (q := 16) (by decide))) (by decide) (fun v h1 q => ?_)
  obtain ⟨rfl, rfl⟩ := q
  refine px_PW.steps kt_1.2 4 rfl ?_
  refine px_PW.callV kt_1.2 rfl rfl rfl rfl (nb_copy (N := (upd (upd (upd (upd (upd (upd (upd (upd N 0 (N 9)) 1 (N 10)) 2 (N 11)) 3 (N 12)) 4 (N 13)) 5 (N 14)) 6 (N 15)) 7 (N 16))) (q := 8) (p := 17) (by decide) (by decide) (by decide) (hw.nn (q := 17) (by decide)) (hw.lim (q := 17) (by decide)) (hw.lim (q := 17) (by decide))) (by decide) (fun v h1 q => ?_)
  obtain ⟨rfl, rfl⟩ := q
  refine px_PW.steps kt_1.2 3 rfl ?_
  refine px_op_0 kt_1.2 rfl ?_
  refine px_PW.ret kt_1.2 rfl rfl ?_
  exact ⟨rfl, rfl⟩
def s_image (Z N : Nat → Int32) (F : Nat → Nat → Int32)  : Int32 × (Nat → Int32) × (Nat → Int32) × (Nat → Nat → Int32) := (((Z 21) + 1), (upd (upd Z 1 (Z 0)) 21 ((Z 21) + 1)), (s_keepN N), (s_keepF N F))
theorem kc_image {Z N : Nat → Int32} {F : Nat → Nat → Int32} (hw : px_cw N)  : px_PM 5 80 [.ref 0] (px_CH Z N F, []) (fun r h' => r = some (.int (s_image Z N F).1) ∧ ∃ Z' N' F', px_sc (s_image Z N F).2.1 (s_image Z N F).2.2.1 (s_image Z N F).2.2.2 Z' N' F' ∧ h' = (px_CH Z' N' F', [])) := by
  refine px_PM.start (nL := 1) (code := pc_80) rfl rfl ?_
  refine px_PW.steps kt_80.2 4 rfl ?_
  refine px_PW.callV kt_80.2 rfl rfl rfl rfl (cc_keep hw) (by decide) (fun v h1 q => ?_)
  obtain ⟨rfl, rfl⟩ := q
  refine px_PW.steps kt_80.2 5 rfl ?_
  refine px_op_21 kt_80.2 rfl ?_
  refine px_PW.steps kt_80.2 2 rfl ?_
  refine px_PW.ret kt_80.2 rfl rfl ?_
  have E : s_image Z N F = (((Z 21) + 1), (upd (upd Z 1 (Z 0)) 21 ((Z 21) + 1)), (s_keepN N), (s_keepF N F)) := rfl
  rw [E]
  exact ⟨rfl, _, _, _, px_sc.rf, rfl⟩
def s_restore (Z N : Nat → Int32) (F : Nat → Nat → Int32)  : Int32 × (Nat → Int32) × (Nat → Int32) × (Nat → Nat → Int32) := (if (Z 21) = 0 then ((-1000000000 - 2), Z, N, F) else ((((s_takeF N F) 0) 6), (upd Z 0 (Z 1)), (s_takeN N), (s_takeF N F)))
theorem kc_restore {Z N : Nat → Int32} {F : Nat → Nat → Int32} (hw : px_cw N)  : px_PM 5 81 [.ref 0] (px_CH Z N F, []) (fun r h' => r = some (.int (s_restore Z N F).1) ∧ ∃ Z' N' F', px_sc (s_restore Z N F).2.1 (s_restore Z N F).2.2.1 (s_restore Z N F).2.2.2 Z' N' F' ∧ h' = (px_CH Z' N' F', [])) := by
  refine px_PM.start (nL := 1) (code := pc_81) rfl rfl ?_
  refine px_PW.steps kt_81.2 3 rfl ?_
  refine px_PW.br (fun c0 => ?_) (fun c0 => ?_)
  · have c0 : ¬ ((Z 21) = 0) := of_decide_eq_false (px_nt c0)
    refine px_PW.steps kt_81.2 4 rfl ?_
    refine px_PW.callV kt_81.2 rfl rfl rfl rfl (cc_take hw) (by decide) (fun v h1 q => ?_)
    obtain ⟨rfl, rfl⟩ := q
    refine px_PW.steps kt_81.2 2 rfl ?_
    refine px_PW.callV kt_81.2 rfl rfl rfl rfl (cc_is (N := (s_takeN N)) (show s_takeN N 0 = 7 from hw.2.1) 6 (by decide)) (by decide) (fun v h1 q => ?_)
    obtain ⟨rfl, rfl⟩ := q
    refine px_PW.ret kt_81.2 rfl rfl ?_
    have E : s_restore Z N F = ((((s_takeF N F) 0) 6), (upd Z 0 (Z 1)), (s_takeN N), (s_takeF N F)) := if_neg c0
    rw [E]
    exact ⟨rfl, _, _, _, px_sc.rf, rfl⟩
  · have c0 : (Z 21) = 0 := of_decide_eq_true (px_nf c0)
    refine px_PW.steps kt_81.2 2 rfl ?_
    refine px_PW.callV kt_81.2 rfl rfl rfl rfl (cc_error hw.2.2.1 2 (by decide)) (by decide) (fun v h1 q => ?_)
    obtain ⟨rfl, rfl⟩ := q
    refine px_PW.ret kt_81.2 rfl rfl ?_
    have E : s_restore Z N F = ((-1000000000 - 2), Z, N, F) := if_pos c0
    rw [E]
    exact ⟨rfl, _, _, _, px_sc.err, rfl⟩
def s_above (k : Int32) : Int32 := if k = 4 then 1 else if k = 5 then 2 else if k = 6 then 3 else 0
theorem px_swd_95_1 {x : Int32} (c0 : ¬ (x = 4)) (c1 : ¬ (x = 5)) (c2 : ¬ (x = 6)) : px_sw 4 [28, 30, 32] 34 x.toInt = 34 := by
  have d0 : ¬ (x.toInt = 4) := fun h => c0 (px_i_of h (by decide +kernel))
  have d1 : ¬ (x.toInt = 5) := fun h => c1 (px_i_of h (by decide +kernel))
  have d2 : ¬ (x.toInt = 6) := fun h => c2 (px_i_of h (by decide +kernel))
  exact px_sw_d (fun y h1 h2 => by
    have h1 : (4 : Int) ≤ y := h1
    have h2 : y < 7 := h2
    rcases (show y = 4 ∨ y = 5 ∨ y = 6 by omega) with rfl | rfl | rfl
    · exact Or.inl (fun h => d0 h)
    · exact Or.inl (fun h => d1 h)
    · exact Or.inl (fun h => d2 h))
theorem cc_above   (k : Int32) (h : px_H) : px_PM 1 95 [.int k] h (fun r h' => r = some (.int (s_above k)) ∧ h' = h) := by
  refine px_PM.start (nL := 1) (code := pc_95) rfl rfl ?_
  refine px_PW.steps kt_95.2 2 rfl ?_
  by_cases c0 : k = 4
  · refine px_PW.at (pc' := 28) (by rw [c0]; rfl) ?_
    refine px_PW.steps kt_95.2 1 rfl ?_
    refine px_PW.ret kt_95.2 rfl rfl ?_
    exact ⟨congrArg (fun z => some (Value.int z)) (show s_above k = _ from if_pos c0).symm, rfl⟩
  · skip
    by_cases c1 : k = 5
    · refine px_PW.at (pc' := 30) (by rw [c1]; rfl) ?_
      refine px_PW.steps kt_95.2 1 rfl ?_
      refine px_PW.ret kt_95.2 rfl rfl ?_
      exact ⟨congrArg (fun z => some (Value.int z)) (show s_above k = _ from (if_neg c0).trans (if_pos c1)).symm, rfl⟩
    · skip
      by_cases c2 : k = 6
      · refine px_PW.at (pc' := 32) (by rw [c2]; rfl) ?_
        refine px_PW.steps kt_95.2 1 rfl ?_
        refine px_PW.ret kt_95.2 rfl rfl ?_
        exact ⟨congrArg (fun z => some (Value.int z)) (show s_above k = _ from (if_neg c0).trans ((if_neg c1).trans (if_pos c2))).symm, rfl⟩
      · skip
        refine px_PW.at (px_swd_95_1 c0 c1 c2) ?_
        refine px_PW.steps kt_95.2 1 rfl ?_
        refine px_PW.ret kt_95.2 rfl rfl ?_
        exact ⟨congrArg (fun z => some (Value.int z)) (show s_above k = _ from (if_neg c0).trans ((if_neg c1).trans (if_neg c2))).symm, rfl⟩
theorem cc_isOfKind   (own kind : Int32) (h : px_H) : px_PM 2 94 [.int own, .int kind] h (fun r h' => r = some (.int (if kind = 0 ∨ kind = own ∨ kind = s_above own then 1 else 0)) ∧ h' = h) := by
  refine px_PM.start (nL := 2) (code := pc_94) rfl rfl ?_
  refine px_PW.steps kt_94.2 2 rfl ?_
  refine px_PW.br (fun c0 => ?_) (fun c0 => ?_)
  · have c0 : kind = 0 := of_decide_eq_true c0
    refine px_PW.steps kt_94.2 2 rfl ?_
    refine px_PW.ret kt_94.2 rfl rfl ?_
    exact ⟨by simp [*], rfl⟩
  · have c0 : ¬ (kind = 0) := of_decide_eq_false c0
    refine px_PW.steps kt_94.2 3 rfl ?_
    refine px_PW.br (fun c1 => ?_) (fun c1 => ?_)
    · have c1 : kind = own := of_decide_eq_true c1
      refine px_PW.steps kt_94.2 2 rfl ?_
      refine px_PW.ret kt_94.2 rfl rfl ?_
      exact ⟨by simp [*], rfl⟩
    · have c1 : ¬ (kind = own) := of_decide_eq_false c1
      refine px_PW.steps kt_94.2 2 rfl ?_
      refine px_PW.callS kt_94.2 rfl rfl rfl (cc_above _ _) (by decide) (fun v h1 q => ?_)
      obtain ⟨rfl, rfl⟩ := q
      refine px_PW.steps kt_94.2 1 rfl ?_
      refine px_PW.br (fun c2 => ?_) (fun c2 => ?_)
      · have c2 : ¬ (kind = (s_above own)) := of_decide_eq_false (px_nt c2)
        refine px_PW.steps kt_94.2 1 rfl ?_
        refine px_PW.ret kt_94.2 rfl rfl ?_
        exact ⟨by simp [*], rfl⟩
      · have c2 : kind = (s_above own) := of_decide_eq_true (px_nf c2)
        refine px_PW.steps kt_94.2 2 rfl ?_
        refine px_PW.ret kt_94.2 rfl rfl ?_
        exact ⟨by simp [*], rfl⟩
def s_as (Z N : Nat → Int32) (F : Nat → Nat → Int32) (thing : Int32) (kind : Int32) : Int32 := (if thing < 0 ∨ (N 1) ≤ thing then (-1000000000 - 1) else (if kind < 0 then (-1000000000 - 1) else (if kind ≤ 6 then (if kind = 0 ∨ kind = ((F 1) (thing).toNatClampNeg) ∨ kind = s_above ((F 1) (thing).toNatClampNeg) then ((F 2) (thing).toNatClampNeg) else (-1000000000 - 5)) else (-1000000000 - 1))))
theorem kc_as {Z N : Nat → Int32} {F : Nat → Nat → Int32} (hw : px_cw N) (hT : N 2 = N 1 ∧ N 3 = N 1 ∧ N 4 = N 1) (thing : Int32) (kind : Int32) : px_PM 3 55 [.ref 0, .int thing, .int kind] (px_CH Z N F, []) (fun r h' => r = some (.int (s_as Z N F thing kind)) ∧ ∃ Z' N' F', px_sc Z N F Z' N' F' ∧ h' = (px_CH Z' N' F', [])) := by
  refine px_PM.start (nL := 3) (code := pc_55) rfl rfl ?_
  refine px_PW.steps kt_55.2 2 rfl ?_
  refine px_PW.callV kt_55.2 rfl rfl rfl rfl (cc_isThing _) (by decide) (fun v h1 q => ?_)
  obtain ⟨rfl, rfl⟩ := q
  refine px_PW.steps kt_55.2 1 rfl ?_
  refine px_PW.br (fun c0 => ?_) (fun c0 => ?_)
  · have c0 : thing < 0 ∨ (N 1) ≤ thing := px_b0z (of_decide_eq_true c0)
    refine px_PW.steps kt_55.2 2 rfl ?_
    refine px_PW.callV kt_55.2 rfl rfl rfl rfl (cc_error hw.2.2.1 1 (by decide)) (by decide) (fun v h1 q => ?_)
    obtain ⟨rfl, rfl⟩ := q
    refine px_PW.ret kt_55.2 rfl rfl ?_
    have E : s_as Z N F thing kind = (-1000000000 - 1) := if_pos c0
    rw [E]
    exact ⟨rfl, _, _, _, px_sc.err, rfl⟩
  · have c0 : ¬ (thing < 0 ∨ (N 1) ≤ thing) := px_b0n (of_decide_eq_false c0)
    refine px_PW.steps kt_55.2 2 rfl ?_
    refine px_PW.br (fun c1 => ?_) (fun c1 => ?_)
    · have c1 : kind < 0 := of_decide_eq_true c1
      refine px_PW.steps kt_55.2 2 rfl ?_
      refine px_PW.callV kt_55.2 rfl rfl rfl rfl (cc_error hw.2.2.1 1 (by decide)) (by decide) (fun v h1 q => ?_)
      obtain ⟨rfl, rfl⟩ := q
      refine px_PW.ret kt_55.2 rfl rfl ?_
      have E : s_as Z N F thing kind = (-1000000000 - 1) := (if_neg c0).trans (if_pos c1)
      rw [E]
      exact ⟨rfl, _, _, _, px_sc.err, rfl⟩
    · have c1 : ¬ (kind < 0) := of_decide_eq_false c1
      refine px_PW.steps kt_55.2 3 rfl ?_
      refine px_PW.br (fun c2 => ?_) (fun c2 => ?_)
      · have c2 : kind ≤ 6 := of_decide_eq_true c2
        refine px_PW.steps kt_55.2 4 rfl ?_
        refine px_PW.callV kt_55.2 rfl rfl rfl rfl (nb_getT (q := 1) (by decide) (hw.lim (by decide)) rfl c0) (by decide) (fun v h1 q => ?_)
        obtain ⟨rfl, rfl⟩ := q
        refine px_PW.steps kt_55.2 1 rfl ?_
        refine px_PW.callS kt_55.2 rfl rfl rfl (cc_isOfKind _ _ _) (by decide) (fun v h1 q => ?_)
        obtain ⟨rfl, rfl⟩ := q
        refine px_PW.steps kt_55.2 1 rfl ?_
        refine px_PW.br (fun c3 => ?_) (fun c3 => ?_)
        · have c3 : ¬ (kind = 0 ∨ kind = ((F 1) (thing).toNatClampNeg) ∨ kind = s_above ((F 1) (thing).toNatClampNeg)) := px_b1z (of_decide_eq_true c3)
          refine px_PW.steps kt_55.2 2 rfl ?_
          refine px_PW.callV kt_55.2 rfl rfl rfl rfl (cc_error hw.2.2.1 5 (by decide)) (by decide) (fun v h1 q => ?_)
          obtain ⟨rfl, rfl⟩ := q
          refine px_PW.ret kt_55.2 rfl rfl ?_
          have E : s_as Z N F thing kind = (-1000000000 - 5) := (if_neg c0).trans ((if_neg c1).trans ((if_pos c2).trans (if_neg c3)))
          rw [E]
          exact ⟨rfl, _, _, _, px_sc.err, rfl⟩
        · have c3 : kind = 0 ∨ kind = ((F 1) (thing).toNatClampNeg) ∨ kind = s_above ((F 1) (thing).toNatClampNeg) := px_b1n (of_decide_eq_false c3)
          refine px_PW.steps kt_55.2 4 rfl ?_
          refine px_PW.callV kt_55.2 rfl rfl rfl rfl (nb_getT (q := 2) (by decide) (hw.lim (by decide)) hT.1 c0) (by decide) (fun v h1 q => ?_)
          obtain ⟨rfl, rfl⟩ := q
          refine px_PW.steps kt_55.2 1 rfl ?_
          refine px_PW.ret kt_55.2 rfl rfl ?_
          have E : s_as Z N F thing kind = ((F 2) (thing).toNatClampNeg) := (if_neg c0).trans ((if_neg c1).trans ((if_pos c2).trans (if_pos c3)))
          rw [E]
          exact ⟨rfl, _, _, _, px_sc.rf, rfl⟩
      · have c2 : ¬ (kind ≤ 6) := of_decide_eq_false c2
        refine px_PW.steps kt_55.2 2 rfl ?_
        refine px_PW.callV kt_55.2 rfl rfl rfl rfl (cc_error hw.2.2.1 1 (by decide)) (by decide) (fun v h1 q => ?_)
        obtain ⟨rfl, rfl⟩ := q
        refine px_PW.ret kt_55.2 rfl rfl ?_
        have E : s_as Z N F thing kind = (-1000000000 - 1) := (if_neg c0).trans ((if_neg c1).trans (if_neg c2))
        rw [E]
        exact ⟨rfl, _, _, _, px_sc.err, rfl⟩
theorem cc_draw {Z N : Nat → Int32} {F : Nat → Nat → Int32}   : px_PM 1 114 [.ref 0] (px_CH Z N F, []) (fun r h' => r = some (.int (nI (zz_dr (Z 0)))) ∧ h' = (px_CH (upd Z 0 (zz_dz (Z 0))) N F, [])) := by
  refine px_PM.start (nL := 1) (code := pc_114) rfl rfl ?_
  refine px_PW.steps kt_114.2 9 rfl ?_
  refine px_op_0 kt_114.2 rfl ?_
  refine px_PW.steps kt_114.2 5 rfl ?_
  refine px_PW.ret kt_114.2 rfl rfl ?_
  exact ⟨congrArg (fun z => some (Value.int z)) (zz_dr_eq (Z 0)), rfl⟩
