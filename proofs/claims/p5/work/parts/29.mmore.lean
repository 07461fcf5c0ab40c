theorem m_keep_loop {Z : Nat → Int32} {F : Nat → Nat → Int32} {Q : Option Value → px_H → Prop} : ∀ (m k : Nat), k + m = 370 → (px_PW 0 pc_119 Q 21 [some (.ref 1001), some (.ref 1002), some (.int (nI 370))] [] ([], px_MH Z (va_up F 1 (zz_pl (F 0) (F 1) 0 370)))) → px_PW 0 pc_119 Q 2 [some (.ref 1001), some (.ref 1002), some (.int (nI k))] [] ([], px_MH Z (va_up F 1 (zz_pl (F 0) (F 1) 0 k)))
  | m, k, hk, H => by
    refine px_PW.steps kt_119.2 3 rfl ?_
    refine px_PW.br (fun c0 => ?_) (fun c0 => ?_)
    · have c0 : 370 ≤ (nI k) := of_decide_eq_true c0
      have c0 : 370 ≤ k := by exact (nI_leI (a := 370) (b := k) (by omega) (by omega)).mp c0
      obtain rfl : m = 0 := by omega
      obtain rfl : k = 370 := by omega
      exact H
    · have c0 : ¬ (370 ≤ (nI k)) := of_decide_eq_false c0
      have c0 : ¬ (370 ≤ k) := fun q => c0 (by exact (nI_leI (a := 370) (b := k) (by omega) (by omega)).mpr q)
      obtain ⟨m2, rfl⟩ : ∃ m2, m = m2 + 1 := ⟨m - 1, by omega⟩
      refine px_PW.steps kt_119.2 4 rfl ?_
      refine px_PW.aldN kt_119.2 rfl rfl (n := k) rfl (by omega) ?_
      refine ms_1 kt_119.2 rfl (n := k) rfl (by omega) ?_
      refine px_PW.steps kt_119.2 2 rfl ?_
      have g := m_keep_loop  (Q := Q) m2 (k + 1) (by omega) H
      have e2 : (va_up F 1 (zz_pl (F 0) (F 1) 0 ((k + 1)))) = (va_up (va_up F 1 (zz_pl (F 0) (F 1) 0 k)) 1 (upd (zz_pl (F 0) (F 1) 0 k) k ((F 0) k))) := by rw [px_up_up, zz_pl_s0]
      rw [e2, nI_succ] at g
      exact g
theorem mm_keep {Z : Nat → Int32} {F : Nat → Nat → Int32} : px_PM 1 119 [.ref 1001, .ref 1002] ([], px_MH Z F) (fun r h' => r = none ∧ h' = ([], px_MH Z (va_up F 1 (zz_pl (F 0) (F 1) 0 370)))) := by
  refine px_PM.start (nL := 3) (code := pc_119) rfl rfl ?_
  refine px_PW.steps kt_119.2 2 rfl ?_
  refine px_PW.hp (show _ = ([], px_MH Z (va_up F 1 (zz_pl (F 0) (F 1) 0 0))) by rw [zz_pl_0, px_up_id]) ?_
  refine m_keep_loop 370 0 rfl ?_
  exact px_PW.ret kt_119.2 rfl rfl ⟨rfl, rfl⟩
theorem m_take_loop {Z : Nat → Int32} {F : Nat → Nat → Int32} {Q : Option Value → px_H → Prop} : ∀ (m k : Nat), k + m = 370 → (px_PW 0 pc_119 Q 21 [some (.ref 1002), some (.ref 1001), some (.int (nI 370))] [] ([], px_MH Z (va_up F 0 (zz_pl (F 1) (F 0) 0 370)))) → px_PW 0 pc_119 Q 2 [some (.ref 1002), some (.ref 1001), some (.int (nI k))] [] ([], px_MH Z (va_up F 0 (zz_pl (F 1) (F 0) 0 k)))
  | m, k, hk, H => by
    refine px_PW.steps kt_119.2 3 rfl ?_
    refine px_PW.br (fun c0 => ?_) (fun c0 => ?_)
    · have c0 : 370 ≤ (nI k) := of_decide_eq_true c0
      have c0 : 370 ≤ k := by exact (nI_leI (a := 370) (b := k) (by omega) (by omega)).mp c0
      obtain rfl : m = 0 := by omega
      obtain rfl : k = 370 := by omega
      exact H
    · have c0 : ¬ (370 ≤ (nI k)) := of_decide_eq_false c0
      have c0 : ¬ (370 ≤ k) := fun q => c0 (by exact (nI_leI (a := 370) (b := k) (by omega) (by omega)).mpr q)
      obtain ⟨m2, rfl⟩ : ∃ m2, m = m2 + 1 := ⟨m - 1, by omega⟩
      refine px_PW.steps kt_119.2 4 rfl ?_
      refine px_PW.aldN kt_119.2 rfl rfl (n := k) rfl (by omega) ?_
      refine ms_0 kt_119.2 rfl (n := k) rfl (by omega) ?_
      refine px_PW.steps kt_119.2 2 rfl ?_
      have g := m_take_loop  (Q := Q) m2 (k + 1) (by omega) H
      have e2 : (va_up F 0 (zz_pl (F 1) (F 0) 0 ((k + 1)))) = (va_up (va_up F 0 (zz_pl (F 1) (F 0) 0 k)) 0 (upd (zz_pl (F 1) (F 0) 0 k) k ((F 1) k))) := by rw [px_up_up, zz_pl_s0]
      rw [e2, nI_succ] at g
      exact g
theorem mm_take {Z : Nat → Int32} {F : Nat → Nat → Int32} : px_PM 1 119 [.ref 1002, .ref 1001] ([], px_MH Z F) (fun r h' => r = none ∧ h' = ([], px_MH Z (va_up F 0 (zz_pl (F 1) (F 0) 0 370)))) := by
  refine px_PM.start (nL := 3) (code := pc_119) rfl rfl ?_
  refine px_PW.steps kt_119.2 2 rfl ?_
  refine px_PW.hp (show _ = ([], px_MH Z (va_up F 0 (zz_pl (F 1) (F 0) 0 0))) by rw [zz_pl_0, px_up_id]) ?_
  refine m_take_loop 370 0 rfl ?_
  exact px_PW.ret kt_119.2 rfl rfl ⟨rfl, rfl⟩
def s_mimage (Z : Nat → Int32) (F : Nat → Nat → Int32)  : Int32 × (Nat → Int32) × (Nat → Nat → Int32) := (((Z 0) + 1), (upd Z 0 ((Z 0) + 1)), (va_up F 1 (zz_pl (F 0) (F 1) 0 370)))
theorem kc_mimage {Z : Nat → Int32} {F : Nat → Nat → Int32}   : px_PM 2 201 [.ref 1000] ([], px_MH Z F) (fun r h' => r = some (.int (s_mimage Z F).1) ∧ ∃ Z' F', px_sm (s_mimage Z F).2.1 (s_mimage Z F).2.2 Z' F' ∧ h' = ([], px_MH Z' F')) := by
  refine px_PM.start (nL := 1) (code := pc_201) rfl rfl ?_
  refine px_PW.steps kt_201.2 4 rfl ?_
  refine px_PW.callS kt_201.2 rfl rfl rfl (mm_keep) (by decide) (fun v h1 q => ?_)
  obtain ⟨rfl, rfl⟩ := q
  refine px_PW.steps kt_201.2 5 rfl ?_
  refine mo_0 kt_201.2 rfl ?_
  refine px_PW.steps kt_201.2 2 rfl ?_
  refine px_PW.ret kt_201.2 rfl rfl ?_
  have E : s_mimage Z F = (((Z 0) + 1), (upd Z 0 ((Z 0) + 1)), (va_up F 1 (zz_pl (F 0) (F 1) 0 370))) := rfl
  rw [E]
  exact ⟨rfl, _, _, px_sm.rf, rfl⟩
def s_mrestore (Z : Nat → Int32) (F : Nat → Nat → Int32)  : Int32 × (Nat → Int32) × (Nat → Nat → Int32) := (if (Z 0) = 0 then ((-1000000000 - 2), Z, F) else (((zz_pl (F 1) (F 0) 0 370) 6), Z, (va_up F 0 (zz_pl (F 1) (F 0) 0 370))))
theorem kc_mrestore {Z : Nat → Int32} {F : Nat → Nat → Int32}   : px_PM 2 202 [.ref 1000] ([], px_MH Z F) (fun r h' => r = some (.int (s_mrestore Z F).1) ∧ ∃ Z' F', px_sm (s_mrestore Z F).2.1 (s_mrestore Z F).2.2 Z' F' ∧ h' = ([], px_MH Z' F')) := by
  refine px_PM.start (nL := 1) (code := pc_202) rfl rfl ?_
  refine px_PW.steps kt_202.2 3 rfl ?_
  refine px_PW.br (fun c0 => ?_) (fun c0 => ?_)
  · have c0 : ¬ ((Z 0) = 0) := of_decide_eq_false (px_nt c0)
    refine px_PW.steps kt_202.2 4 rfl ?_
    refine px_PW.callS kt_202.2 rfl rfl rfl (mm_take) (by decide) (fun v h1 q => ?_)
    obtain ⟨rfl, rfl⟩ := q
    refine px_PW.steps kt_202.2 3 rfl ?_
    refine px_PW.steps kt_202.2 1 rfl ?_
    refine px_PW.ret kt_202.2 rfl rfl ?_
    have E : s_mrestore Z F = (((zz_pl (F 1) (F 0) 0 370) 6), Z, (va_up F 0 (zz_pl (F 1) (F 0) 0 370))) := if_neg c0
    rw [E]
    exact ⟨rfl, _, _, px_sm.rf, rfl⟩
  · have c0 : (Z 0) = 0 := of_decide_eq_true (px_nf c0)
    refine px_PW.steps kt_202.2 2 rfl ?_
    refine px_PW.callV kt_202.2 rfl rfl rfl rfl (mm_error 2 (by decide)) (by decide) (fun v h1 q => ?_)
    obtain ⟨rfl, rfl⟩ := q
    refine px_PW.ret kt_202.2 rfl rfl ?_
    have E : s_mrestore Z F = ((-1000000000 - 2), Z, F) := if_pos c0
    rw [E]
    exact ⟨rfl, _, _, px_sm.err, rfl⟩
theorem mm_hasText0 {Z : Nat → Int32} {F : Nat → Nat → Int32}   : px_PM 1 136 [.ref 1000, .int 0] ([], px_MH Z F) (fun r h' => r = some (.int (if 0 < F 0 36 then 1 else 0)) ∧ h' = ([], px_MH Z F)) := by
  refine px_PM.start (nL := 2) (code := pc_136) rfl rfl ?_
  refine px_PW.steps kt_136.2 7 rfl ?_
  refine px_PW.aldN kt_136.2 rfl rfl (n := 36) rfl (by decide) ?_
  refine px_PW.steps kt_136.2 1 rfl ?_
  refine px_PW.br (fun c0 => ?_) (fun c0 => ?_)
  · have c0 : ((F 0) 36) ≤ 0 := of_decide_eq_true c0
    refine px_PW.steps kt_136.2 1 rfl ?_
    refine px_PW.ret kt_136.2 rfl rfl ?_
    exact ⟨by simp [*], rfl⟩
  · have c0 : ¬ (((F 0) 36) ≤ 0) := of_decide_eq_false c0
    refine px_PW.steps kt_136.2 2 rfl ?_
    refine px_PW.ret kt_136.2 rfl rfl ?_
    exact ⟨by simp [*], rfl⟩
theorem mm_hasText1 {Z : Nat → Int32} {F : Nat → Nat → Int32}   : px_PM 1 136 [.ref 1000, .int 1] ([], px_MH Z F) (fun r h' => r = some (.int (if 0 < F 0 161 then 1 else 0)) ∧ h' = ([], px_MH Z F)) := by
  refine px_PM.start (nL := 2) (code := pc_136) rfl rfl ?_
  refine px_PW.steps kt_136.2 7 rfl ?_
  refine px_PW.aldN kt_136.2 rfl rfl (n := 161) rfl (by decide) ?_
  refine px_PW.steps kt_136.2 1 rfl ?_
  refine px_PW.br (fun c0 => ?_) (fun c0 => ?_)
  · have c0 : ((F 0) 161) ≤ 0 := of_decide_eq_true c0
    refine px_PW.steps kt_136.2 1 rfl ?_
    refine px_PW.ret kt_136.2 rfl rfl ?_
    exact ⟨by simp [*], rfl⟩
  · have c0 : ¬ (((F 0) 161) ≤ 0) := of_decide_eq_false c0
    refine px_PW.steps kt_136.2 2 rfl ?_
    refine px_PW.ret kt_136.2 rfl rfl ?_
    exact ⟨by simp [*], rfl⟩
theorem px_no01 {u : Int32} (h : ¬ (u = 0 ∨ u = 1)) : ¬ (0 ≤ u ∧ u ≤ 1) := fun c => by
  obtain ⟨n, hn, rfl⟩ := nI_of (Int32.not_lt.mpr c.1)
  have c2 := c.2
  rw [show (1 : Int32) = nI 1 from rfl, nI_leI (by omega) (by omega)] at c2
  rcases (show n = 0 ∨ n = 1 by omega) with rfl | rfl
  · exact h (Or.inl rfl)
  · exact h (Or.inr rfl)
def s_muntell0 (Z : Nat → Int32) (F : Nat → Nat → Int32)  : Int32 × (Nat → Int32) × (Nat → Nat → Int32) := (if 0 < ((F 0) 36) then (1, Z, (va_up F 0 (upd (F 0) 36 0))) else (0, Z, (va_up F 0 (upd (F 0) 36 0))))
theorem kc_muntell0 {Z : Nat → Int32} {F : Nat → Nat → Int32}   : px_PM 2 138 [.ref 1000, .int 0] ([], px_MH Z F) (fun r h' => r = some (.int (s_muntell0 Z F).1) ∧ ∃ Z' F', px_sm (s_muntell0 Z F).2.1 (s_muntell0 Z F).2.2 Z' F' ∧ h' = ([], px_MH Z' F')) := by
  refine px_PM.start (nL := 3) (code := pc_138) rfl rfl ?_
  refine px_PW.steps kt_138.2 3 rfl ?_
  refine px_PW.callS kt_138.2 rfl rfl rfl (cm_117 _ _ _ _) (by decide) (fun v h1 q => ?_)
  obtain ⟨rfl, rfl⟩ := q
  refine px_PW.steps kt_138.2 1 rfl ?_
  refine px_PW.br (fun c0 => ?_) (fun c0 => ?_)
  · have c0 : 0 ≤ 0 ∧ 0 ≤ 1 := px_b1n (of_decide_eq_false (px_nt c0))
    refine px_PW.steps kt_138.2 2 rfl ?_
    refine px_PW.callV kt_138.2 rfl rfl rfl rfl (mm_hasText0) (by decide) (fun v h1 q => ?_)
    obtain ⟨rfl, rfl⟩ := q
    refine px_PW.steps kt_138.2 1 rfl ?_
    refine px_PW.br (fun c1 => ?_) (fun c1 => ?_)
    · have c1 : ¬ (0 < ((F 0) 36)) := px_b1z (of_decide_eq_true c1)
      refine px_PW.steps kt_138.2 10 rfl ?_
      refine ms_0 kt_138.2 rfl (n := 36) rfl (by decide) ?_
      refine px_PW.steps kt_138.2 1 rfl ?_
      refine px_PW.ret kt_138.2 rfl rfl ?_
      have E : s_muntell0 Z F = (0, Z, (va_up F 0 (upd (F 0) 36 0))) := if_neg c1
      rw [E]
      exact ⟨rfl, _, _, px_sm.rf, rfl⟩
    · have c1 : 0 < ((F 0) 36) := px_b1n (of_decide_eq_false c1)
      refine px_PW.steps kt_138.2 11 rfl ?_
      refine ms_0 kt_138.2 rfl (n := 36) rfl (by decide) ?_
      refine px_PW.steps kt_138.2 1 rfl ?_
      refine px_PW.ret kt_138.2 rfl rfl ?_
      have E : s_muntell0 Z F = (1, Z, (va_up F 0 (upd (F 0) 36 0))) := if_pos c1
      rw [E]
      exact ⟨rfl, _, _, px_sm.rf, rfl⟩
  · have c0 : ¬ (0 ≤ 0 ∧ 0 ≤ 1) := px_b1z (of_decide_eq_true (px_nf c0))
    exact absurd (by decide) c0
def s_muntell1 (Z : Nat → Int32) (F : Nat → Nat → Int32)  : Int32 × (Nat → Int32) × (Nat → Nat → Int32) := (if 0 < ((F 0) 161) then (1, Z, (va_up F 0 (upd (F 0) 161 0))) else (0, Z, (va_up F 0 (upd (F 0) 161 0))))
theorem kc_muntell1 {Z : Nat → Int32} {F : Nat → Nat → Int32}   : px_PM 2 138 [.ref 1000, .int 1] ([], px_MH Z F) (fun r h' => r = some (.int (s_muntell1 Z F).1) ∧ ∃ Z' F', px_sm (s_muntell1 Z F).2.1 (s_muntell1 Z F).2.2 Z' F' ∧ h' = ([], px_MH Z' F')) := by
  refine px_PM.start (nL := 3) (code := pc_138) rfl rfl ?_
  refine px_PW.steps kt_138.2 3 rfl ?_
  refine px_PW.callS kt_138.2 rfl rfl rfl (cm_117 _ _ _ _) (by decide) (fun v h1 q => ?_)
  obtain ⟨rfl, rfl⟩ := q
  refine px_PW.steps kt_138.2 1 rfl ?_
  refine px_PW.br (fun c0 => ?_) (fun c0 => ?_)
  · have c0 : 0 ≤ 1 ∧ 1 ≤ 1 := px_b1n (of_decide_eq_false (px_nt c0))
    refine px_PW.steps kt_138.2 2 rfl ?_
    refine px_PW.callV kt_138.2 rfl rfl rfl rfl (mm_hasText1) (by decide) (fun v h1 q => ?_)
    obtain ⟨rfl, rfl⟩ := q
    refine px_PW.steps kt_138.2 1 rfl ?_
    refine px_PW.br (fun c1 => ?_) (fun c1 => ?_)
    · have c1 : ¬ (0 < ((F 0) 161)) := px_b1z (of_decide_eq_true c1)
      refine px_PW.steps kt_138.2 10 rfl ?_
      refine ms_0 kt_138.2 rfl (n := 161) rfl (by decide) ?_
      refine px_PW.steps kt_138.2 1 rfl ?_
      refine px_PW.ret kt_138.2 rfl rfl ?_
      have E : s_muntell1 Z F = (0, Z, (va_up F 0 (upd (F 0) 161 0))) := if_neg c1
      rw [E]
      exact ⟨rfl, _, _, px_sm.rf, rfl⟩
    · have c1 : 0 < ((F 0) 161) := px_b1n (of_decide_eq_false c1)
      refine px_PW.steps kt_138.2 11 rfl ?_
      refine ms_0 kt_138.2 rfl (n := 161) rfl (by decide) ?_
      refine px_PW.steps kt_138.2 1 rfl ?_
      refine px_PW.ret kt_138.2 rfl rfl ?_
      have E : s_muntell1 Z F = (1, Z, (va_up F 0 (upd (F 0) 161 0))) := if_pos c1
      rw [E]
      exact ⟨rfl, _, _, px_sm.rf, rfl⟩
  · have c0 : ¬ (0 ≤ 1 ∧ 1 ≤ 1) := px_b1z (of_decide_eq_true (px_nf c0))
    exact absurd (by decide) c0
def s_muntellB (Z : Nat → Int32) (F : Nat → Nat → Int32) (use : Int32) : Int32 × (Nat → Int32) × (Nat → Nat → Int32) := ((-1000000000 - 1), Z, F)
theorem kc_muntellB {Z : Nat → Int32} {F : Nat → Nat → Int32}  (use : Int32) (hu : ¬ (use = 0 ∨ use = 1)) : px_PM 2 138 [.ref 1000, .int use] ([], px_MH Z F) (fun r h' => r = some (.int (s_muntellB Z F use).1) ∧ ∃ Z' F', px_sm (s_muntellB Z F use).2.1 (s_muntellB Z F use).2.2 Z' F' ∧ h' = ([], px_MH Z' F')) := by
  refine px_PM.start (nL := 3) (code := pc_138) rfl rfl ?_
  refine px_PW.steps kt_138.2 3 rfl ?_
  refine px_PW.callS kt_138.2 rfl rfl rfl (cm_117 _ _ _ _) (by decide) (fun v h1 q => ?_)
  obtain ⟨rfl, rfl⟩ := q
  refine px_PW.steps kt_138.2 1 rfl ?_
  refine px_PW.br (fun c0 => ?_) (fun c0 => ?_)
  · have c0 : 0 ≤ use ∧ use ≤ 1 := px_b1n (of_decide_eq_false (px_nt c0))
    exact absurd c0 (px_no01 hu)
  · have c0 : ¬ (0 ≤ use ∧ use ≤ 1) := px_b1z (of_decide_eq_true (px_nf c0))
    refine px_PW.steps kt_138.2 2 rfl ?_
    refine px_PW.callV kt_138.2 rfl rfl rfl rfl (mm_error 1 (by decide)) (by decide) (fun v h1 q => ?_)
    obtain ⟨rfl, rfl⟩ := q
    refine px_PW.ret kt_138.2 rfl rfl ?_
    have E : s_muntellB Z F use = ((-1000000000 - 1), Z, F) := rfl
    rw [E]
    exact ⟨rfl, _, _, px_sm.err, rfl⟩
theorem px_nm {x : Int32} {M : Nat} (hM : x = nI M) (hM6 : M ≤ 6) : x = nI x.toNatClampNeg ∧ x.toNatClampNeg ≤ 6 := by
  subst hM
  rw [nI_clamp (by omega)]
  exact ⟨rfl, hM6⟩
theorem px_nm6 {x : Int32} {M : Nat} (hM : x = nI M) (hM6 : M ≤ 6) (c : ¬ (x = 6)) : x.toNatClampNeg < 6 := by
  have h := px_nm hM hM6
  rcases (show x.toNatClampNeg < 6 ∨ x.toNatClampNeg = 6 by omega) with q | q
  · exact q
  · have e := h.1
    rw [q] at e
    exact absurd e c
def s_mthing (Z : Nat → Int32) (F : Nat → Nat → Int32) (km : Int32) (from_ : Int32) (width : Int32) : Int32 × (Nat → Int32) × (Nat → Nat → Int32) := (if 0 ≤ km ∧ km ≤ 69 then (if 0 ≤ from_ ∧ from_ ≤ 4000 then (if 1 ≤ width ∧ width ≤ 999 then (if ((F 0) 10) = 6 then ((-1000000000 - 4), Z, F) else (((F 0) 10), Z, (va_up (va_up (va_up (va_up (va_up F 0 (upd (F 0) (12 + 4 * (F 0 10).toNatClampNeg + 0) (km / 10))) 0 (upd (upd (F 0) (12 + 4 * (F 0 10).toNatClampNeg + 0) (km / 10)) (12 + 4 * (F 0 10).toNatClampNeg + 1) (km - km / 10 * 10))) 0 (upd (upd (upd (F 0) (12 + 4 * (F 0 10).toNatClampNeg + 0) (km / 10)) (12 + 4 * (F 0 10).toNatClampNeg + 1) (km - km / 10 * 10)) (12 + 4 * (F 0 10).toNatClampNeg + 2) from_)) 0 (upd (upd (upd (upd (F 0) (12 + 4 * (F 0 10).toNatClampNeg + 0) (km / 10)) (12 + 4 * (F 0 10).toNatClampNeg + 1) (km - km / 10 * 10)) (12 + 4 * (F 0 10).toNatClampNeg + 2) from_) (12 + 4 * (F 0 10).toNatClampNeg + 3) width)) 0 (upd (upd (upd (upd (upd (F 0) (12 + 4 * (F 0 10).toNatClampNeg + 0) (km / 10)) (12 + 4 * (F 0 10).toNatClampNeg + 1) (km - km / 10 * 10)) (12 + 4 * (F 0 10).toNatClampNeg + 2) from_) (12 + 4 * (F 0 10).toNatClampNeg + 3) width) 10 (((upd (upd (upd (upd (F 0) (12 + 4 * (F 0 10).toNatClampNeg + 0) (km / 10)) (12 + 4 * (F 0 10).toNatClampNeg + 1) (km - km / 10 * 10)) (12 + 4 * (F 0 10).toNatClampNeg + 2) from_) (12 + 4 * (F 0 10).toNatClampNeg + 3) width) 10) + 1))))) else ((-1000000000 - 1), Z, F)) else ((-1000000000 - 1), Z, F)) else ((-1000000000 - 1), Z, F))
theorem kc_mthing {Z : Nat → Int32} {F : Nat → Nat → Int32} {M : Nat} (hM : F 0 10 = nI M) (hM6 : M ≤ 6) (km : Int32) (from_ : Int32) (width : Int32) : px_PM 3 162 [.ref 1000, .int km, .int from_, .int width] ([], px_MH Z F) (fun r h' => r = some (.int (s_mthing Z F km from_ width).1) ∧ ∃ Z' F', px_sm (s_mthing Z F km from_ width).2.1 (s_mthing Z F km from_ width).2.2 Z' F' ∧ h' = ([], px_MH Z' F')) := by
  refine px_PM.start (nL := 5) (code := pc_162) rfl rfl ?_
  refine px_PW.steps kt_162.2 1 rfl ?_
  refine px_PW.callS kt_162.2 rfl rfl rfl (mm_isKind _ _) (by decide) (fun v h1 q => ?_)
  obtain ⟨rfl, rfl⟩ := q
  refine px_PW.steps kt_162.2 1 rfl ?_
  refine px_PW.br (fun c0 => ?_) (fun c0 => ?_)
  · have c0 : ¬ (0 ≤ km ∧ km ≤ 69) := px_b1z (of_decide_eq_true c0)
    refine px_PW.steps kt_162.2 2 rfl ?_
    refine px_PW.callV kt_162.2 rfl rfl rfl rfl (mm_error 1 (by decide)) (by decide) (fun v h1 q => ?_)
    obtain ⟨rfl, rfl⟩ := q
    refine px_PW.ret kt_162.2 rfl rfl ?_
    have E : s_mthing Z F km from_ width = ((-1000000000 - 1), Z, F) := if_neg c0
    rw [E]
    exact ⟨rfl, _, _, px_sm.err, rfl⟩
  · have c0 : 0 ≤ km ∧ km ≤ 69 := px_b1n (of_decide_eq_false c0)
    refine px_PW.steps kt_162.2 3 rfl ?_
    refine px_PW.callS kt_162.2 rfl rfl rfl (cm_117 _ _ _ _) (by decide) (fun v h1 q => ?_)
    obtain ⟨rfl, rfl⟩ := q
    refine px_PW.steps kt_162.2 1 rfl ?_
    refine px_PW.br (fun c1 => ?_) (fun c1 => ?_)
    · have c1 : ¬ (0 ≤ from_ ∧ from_ ≤ 4000) := px_b1z (of_decide_eq_true c1)
      refine px_PW.steps kt_162.2 2 rfl ?_
      refine px_PW.callV kt_162.2 rfl rfl rfl rfl (mm_error 1 (by decide)) (by decide) (fun v h1 q => ?_)
      obtain ⟨rfl, rfl⟩ := q
      refine px_PW.ret kt_162.2 rfl rfl ?_
      have E : s_mthing Z F km from_ width = ((-1000000000 - 1), Z, F) := (if_pos c0).trans (if_neg c1)
      rw [E]
      exact ⟨rfl, _, _, px_sm.err, rfl⟩
    · have c1 : 0 ≤ from_ ∧ from_ ≤ 4000 := px_b1n (of_decide_eq_false c1)
      refine px_PW.steps kt_162.2 3 rfl ?_
      refine px_PW.callS kt_162.2 rfl rfl rfl (cm_117 _ _ _ _) (by decide) (fun v h1 q => ?_)
      obtain ⟨rfl, rfl⟩ := q
      refine px_PW.steps kt_162.2 1 rfl ?_
      refine px_PW.br (fun c2 => ?_) (fun c2 => ?_)
      · have c2 : 1 ≤ width ∧ width ≤ 999 := px_b1n (of_decide_eq_false (px_nt c2))
        refine px_PW.steps kt_162.2 3 rfl ?_
        refine px_PW.steps kt_162.2 1 rfl ?_
        refine px_PW.steps kt_162.2 2 rfl ?_
        refine px_PW.br (fun c3 => ?_) (fun c3 => ?_)
        · have c3 : ¬ (((F 0) 10) = 6) := of_decide_eq_false (px_nt c3)
          refine px_PW.steps kt_162.2 3 rfl ?_
          refine px_PW.steps kt_162.2 1 rfl ?_
          refine px_PW.steps kt_162.2 7 rfl ?_
          refine px_PW.callV kt_162.2 rfl rfl rfl rfl (mm_lays1 (n := (F 0 10).toNatClampNeg) (k := 0) (px_nm hM hM6).1 rfl (px_nm6 hM hM6 c3) (by omega) _) (by decide) (fun v h1 q => ?_)
          obtain ⟨rfl, rfl⟩ := q
          refine px_PW.steps kt_162.2 6 rfl ?_
          refine px_PW.callV kt_162.2 rfl rfl rfl rfl (mm_lays1 (n := (F 0 10).toNatClampNeg) (k := 1) (px_nm hM hM6).1 rfl (px_nm6 hM hM6 c3) (by omega) _) (by decide) (fun v h1 q => ?_)
          obtain ⟨rfl, rfl⟩ := q
          refine px_PW.steps kt_162.2 4 rfl ?_
          refine px_PW.callV kt_162.2 rfl rfl rfl rfl (mm_lays1 (n := (F 0 10).toNatClampNeg) (k := 2) (px_nm hM hM6).1 rfl (px_nm6 hM hM6 c3) (by omega) _) (by decide) (fun v h1 q => ?_)
          obtain ⟨rfl, rfl⟩ := q
          refine px_PW.steps kt_162.2 4 rfl ?_
          refine px_PW.callV kt_162.2 rfl rfl rfl rfl (mm_lays1 (n := (F 0 10).toNatClampNeg) (k := 3) (px_nm hM hM6).1 rfl (px_nm6 hM hM6 c3) (by omega) _) (by decide) (fun v h1 q => ?_)
          obtain ⟨rfl, rfl⟩ := q
          refine px_PW.steps kt_162.2 4 rfl ?_
          refine px_PW.steps kt_162.2 1 rfl ?_
          refine px_PW.steps kt_162.2 2 rfl ?_
          refine ms_0 kt_162.2 rfl (n := 10) rfl (by decide) ?_
          refine px_PW.steps kt_162.2 1 rfl ?_
          refine px_PW.ret kt_162.2 rfl rfl ?_
          have E : s_mthing Z F km from_ width = (((F 0) 10), Z, (va_up (va_up (va_up (va_up (va_up F 0 (upd (F 0) (12 + 4 * (F 0 10).toNatClampNeg + 0) (km / 10))) 0 (upd (upd (F 0) (12 + 4 * (F 0 10).toNatClampNeg + 0) (km / 10)) (12 + 4 * (F 0 10).toNatClampNeg + 1) (km - km / 10 * 10))) 0 (upd (upd (upd (F 0) (12 + 4 * (F 0 10).toNatClampNeg + 0) (km / 10)) (12 + 4 * (F 0 10).toNatClampNeg + 1) (km - km / 10 * 10)) (12 + 4 * (F 0 10).toNatClampNeg + 2) from_)) 0 (upd (upd (upd (upd (F 0) (12 + 4 * (F 0 10).toNatClampNeg + 0) (km / 10)) (12 + 4 * (F 0 10).toNatClampNeg + 1) (km - km / 10 * 10)) (12 + 4 * (F 0 10).toNatClampNeg + 2) from_) (12 + 4 * (F 0 10).toNatClampNeg + 3) width)) 0 (upd (upd (upd (upd (upd (F 0) (12 + 4 * (F 0 10).toNatClampNeg + 0) (km / 10)) (12 + 4 * (F 0 10).toNatClampNeg + 1) (km - km / 10 * 10)) (12 + 4 * (F 0 10).toNatClampNeg + 2) from_) (12 + 4 * (F 0 10).toNatClampNeg + 3) width) 10 (((upd (upd (upd (upd (F 0) (12 + 4 * (F 0 10).toNatClampNeg + 0) (km / 10)) (12 + 4 * (F 0 10).toNatClampNeg + 1) (km - km / 10 * 10)) (12 + 4 * (F 0 10).toNatClampNeg + 2) from_) (12 + 4 * (F 0 10).toNatClampNeg + 3) width) 10) + 1)))) := (if_pos c0).trans ((if_pos c1).trans ((if_pos c2).trans (if_neg c3)))
          rw [E]
          exact ⟨rfl, _, _, px_sm.rf, rfl⟩
        · have c3 : ((F 0) 10) = 6 := of_decide_eq_true (px_nf c3)
          refine px_PW.steps kt_162.2 2 rfl ?_
          refine px_PW.callV kt_162.2 rfl rfl rfl rfl (mm_error 4 (by decide)) (by decide) (fun v h1 q => ?_)
          obtain ⟨rfl, rfl⟩ := q
          refine px_PW.ret kt_162.2 rfl rfl ?_
          have E : s_mthing Z F km from_ width = ((-1000000000 - 4), Z, F) := (if_pos c0).trans ((if_pos c1).trans ((if_pos c2).trans (if_pos c3)))
          rw [E]
          exact ⟨rfl, _, _, px_sm.err, rfl⟩
      · have c2 : ¬ (1 ≤ width ∧ width ≤ 999) := px_b1z (of_decide_eq_true (px_nf c2))
        refine px_PW.steps kt_162.2 2 rfl ?_
        refine px_PW.callV kt_162.2 rfl rfl rfl rfl (mm_error 1 (by decide)) (by decide) (fun v h1 q => ?_)
        obtain ⟨rfl, rfl⟩ := q
        refine px_PW.ret kt_162.2 rfl rfl ?_
        have E : s_mthing Z F km from_ width = ((-1000000000 - 1), Z, F) := (if_pos c0).trans ((if_pos c1).trans (if_neg c2))
        rw [E]
        exact ⟨rfl, _, _, px_sm.err, rfl⟩
theorem px_w24 {x : Int32} {W : Nat} (hW : x = nI W) (hW24 : W ≤ 24) (c : ¬ (x = 24)) : 346 + x = nI (346 + x.toNatClampNeg) ∧ 346 + x.toNatClampNeg < 370 := by
  subst hW
  rw [nI_clamp (by omega)]
  rcases (show W < 24 ∨ W = 24 by omega) with q | q
  · exact ⟨nI_add 346 W, by omega⟩
  · subst q
    exact absurd rfl c
def s_mtell (Z : Nat → Int32) (F : Nat → Nat → Int32) (v : Int32) : Int32 × (Nat → Int32) × (Nat → Nat → Int32) := (if ((F 0) 9) = 24 then ((-1000000000 - 4), Z, F) else (((upd (upd (F 0) (346 + (F 0 9).toNatClampNeg) v) 9 (((upd (F 0) (346 + (F 0 9).toNatClampNeg) v) 9) + 1)) 9), Z, (va_up (va_up F 0 (upd (F 0) (346 + (F 0 9).toNatClampNeg) v)) 0 (upd (upd (F 0) (346 + (F 0 9).toNatClampNeg) v) 9 (((upd (F 0) (346 + (F 0 9).toNatClampNeg) v) 9) + 1)))))
theorem kc_mtell {Z : Nat → Int32} {F : Nat → Nat → Int32} {W : Nat} (hW : F 0 9 = nI W) (hW24 : W ≤ 24) (v : Int32) : px_PM 2 203 [.ref 1000, .int v] ([], px_MH Z F) (fun r h' => r = some (.int (s_mtell Z F v).1) ∧ ∃ Z' F', px_sm (s_mtell Z F v).2.1 (s_mtell Z F v).2.2 Z' F' ∧ h' = ([], px_MH Z' F')) := by
  refine px_PM.start (nL := 2) (code := pc_203) rfl rfl ?_
  refine px_PW.steps kt_203.2 3 rfl ?_
  refine px_PW.steps kt_203.2 1 rfl ?_
  refine px_PW.steps kt_203.2 2 rfl ?_
  refine px_PW.br (fun c0 => ?_) (fun c0 => ?_)
  · have c0 : ¬ (((F 0) 9) = 24) := of_decide_eq_false (px_nt c0)
    refine px_PW.steps kt_203.2 6 rfl ?_
    refine px_PW.steps kt_203.2 1 rfl ?_
    refine px_PW.steps kt_203.2 2 rfl ?_
    refine ms_0 kt_203.2 rfl (n := 346 + (F 0 9).toNatClampNeg) (px_w24 hW hW24 c0).1 (px_w24 hW hW24 c0).2 ?_
    refine px_PW.steps kt_203.2 4 rfl ?_
    refine px_PW.steps kt_203.2 1 rfl ?_
    refine px_PW.steps kt_203.2 2 rfl ?_
    refine ms_0 kt_203.2 rfl (n := 9) rfl (by decide) ?_
    refine px_PW.steps kt_203.2 3 rfl ?_
    refine px_PW.steps kt_203.2 1 rfl ?_
    refine px_PW.ret kt_203.2 rfl rfl ?_
    have E : s_mtell Z F v = (((upd (upd (F 0) (346 + (F 0 9).toNatClampNeg) v) 9 (((upd (F 0) (346 + (F 0 9).toNatClampNeg) v) 9) + 1)) 9), Z, (va_up (va_up F 0 (upd (F 0) (346 + (F 0 9).toNatClampNeg) v)) 0 (upd (upd (F 0) (346 + (F 0 9).toNatClampNeg) v) 9 (((upd (F 0) (346 + (F 0 9).toNatClampNeg) v) 9) + 1)))) := if_neg c0
    rw [E]
    exact ⟨rfl, _, _, px_sm.rf, rfl⟩
  · have c0 : ((F 0) 9) = 24 := of_decide_eq_true (px_nf c0)
    refine px_PW.steps kt_203.2 2 rfl ?_
    refine px_PW.callV kt_203.2 rfl rfl rfl rfl (mm_error 4 (by decide)) (by decide) (fun v h1 q => ?_)
    obtain ⟨rfl, rfl⟩ := q
    refine px_PW.ret kt_203.2 rfl rfl ?_
    have E : s_mtell Z F v = ((-1000000000 - 4), Z, F) := if_pos c0
    rw [E]
    exact ⟨rfl, _, _, px_sm.err, rfl⟩
theorem px_sh_ok {k : Nat} (hk : k < 4) : 0 ≤ nI k ∧ nI k ≤ 3 := ⟨nI_pos' (by omega), (nI_leI (b := 3) (by omega) (by omega)).mpr (by omega)⟩
theorem px_sh_no {i : Int32} (h : i < 0 ∨ 4 ≤ i) : ¬ (0 ≤ i ∧ i ≤ 3) := fun c => by
  rcases h with h | h
  · exact absurd h (Int32.not_lt.mpr c.1)
  · exact absurd (Int32.le_trans h c.2) (by decide)
def s_lacks (F : Nat → Nat → Int32) (k : Nat) : Int32 := if F 11 k = 0 then 2 else 0
theorem mm_lacks {Z : Nat → Int32} {F : Nat → Nat → Int32} {k : Nat} (hk : k < 4) : px_PM 3 198 [.ref 1000, .int (nI k)] ([], px_MH Z F) (fun r h' => r = some (.int (s_lacks F k)) ∧ h' = ([], px_MH Z F)) := by
  refine px_PM.start (nL := 2) (code := pc_198) rfl rfl ?_
  refine px_PW.steps kt_198.2 1 rfl ?_
  refine px_PW.callS kt_198.2 rfl rfl rfl (mm_isSheet _ _) (by decide) (fun v h1 q => ?_)
  obtain ⟨rfl, rfl⟩ := q
  refine px_PW.steps kt_198.2 1 rfl ?_
  refine px_PW.br (fun c0 => ?_) (fun c0 => ?_)
  · have c0 : 0 ≤ (nI k) ∧ (nI k) ≤ 3 := px_b1n (of_decide_eq_false (px_nt c0))
    refine px_PW.steps kt_198.2 3 rfl ?_
    refine px_PW.aldN kt_198.2 rfl rfl (n := k) rfl hk ?_
    refine px_PW.steps kt_198.2 1 rfl ?_
    refine px_PW.br (fun c1 => ?_) (fun c1 => ?_)
    · have c1 : ¬ (((F 11) k) = 0) := of_decide_eq_false (px_nt c1)
      refine px_PW.steps kt_198.2 1 rfl ?_
      refine px_PW.ret kt_198.2 rfl rfl ?_
      exact ⟨congrArg (fun z => some (Value.int z)) (show s_lacks F k = _ from if_neg c1).symm, rfl⟩
    · have c1 : ((F 11) k) = 0 := of_decide_eq_true (px_nf c1)
      refine px_PW.steps kt_198.2 2 rfl ?_
      refine px_PW.ret kt_198.2 rfl rfl ?_
      exact ⟨congrArg (fun z => some (Value.int z)) (show s_lacks F k = _ from if_pos c1).symm, rfl⟩
  · have c0 : ¬ (0 ≤ (nI k) ∧ (nI k) ≤ 3) := px_b1z (of_decide_eq_true (px_nf c0))
    exact absurd (px_sh_ok hk) c0
theorem mm_lacksB {Z : Nat → Int32} {F : Nat → Nat → Int32} {sheet : Int32} (hb : sheet < 0 ∨ 4 ≤ sheet) : px_PM 3 198 [.ref 1000, .int sheet] ([], px_MH Z F) (fun r h' => r = some (.int (1)) ∧ h' = ([], px_MH Z F)) := by
  refine px_PM.start (nL := 2) (code := pc_198) rfl rfl ?_
  refine px_PW.steps kt_198.2 1 rfl ?_
  refine px_PW.callS kt_198.2 rfl rfl rfl (mm_isSheet _ _) (by decide) (fun v h1 q => ?_)
  obtain ⟨rfl, rfl⟩ := q
  refine px_PW.steps kt_198.2 1 rfl ?_
  refine px_PW.br (fun c0 => ?_) (fun c0 => ?_)
  · have c0 : 0 ≤ sheet ∧ sheet ≤ 3 := px_b1n (of_decide_eq_false (px_nt c0))
    exact absurd c0 (px_sh_no hb)
  · have c0 : ¬ (0 ≤ sheet ∧ sheet ≤ 3) := px_b1z (of_decide_eq_true (px_nf c0))
    refine px_PW.steps kt_198.2 2 rfl ?_
    refine px_PW.ret kt_198.2 rfl rfl ?_
    exact ⟨rfl, rfl⟩
