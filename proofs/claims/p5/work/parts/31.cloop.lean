theorem zz_remT {x : Int32} {M a : Nat} (hM : x = nI M) (hM6 : M ≤ 6) (ha : a < 2 ^ 31) (c : 0 < x) : ¬ (i_rem (nI a) x < 0 ∨ x ≤ i_rem (nI a) x) := by
  subst hM
  have h0 : 0 < M := by
    rcases Nat.eq_zero_or_pos M with h | h
    · subst h; exact absurd c (by decide)
    · exact h
  have h1 := Nat.mod_lt a h0
  rw [zz_irem ha h0 (by omega), nI_leI (by omega) (by omega)]
  exact fun q => q.elim (nI_pos (by omega)) (by omega)
def s_chg (Z N : Nat → Int32) (F : Nat → Nat → Int32)  : (Nat → Int32) × (Nat → Int32) × (Nat → Nat → Int32) := (if (N 1) ≤ 0 then ((upd Z 0 (zz_dz (Z 0))), N, (va_up F 0 (upd (F 0) 6 (1 + (i_rem (nI (zz_dr (Z 0))) ((F 0) 1)))))) else ((upd (upd (upd Z 0 (zz_dz (Z 0))) 0 (zz_dz (zz_dz (Z 0)))) 0 (zz_dz (zz_dz (zz_dz (Z 0))))), N, (va_up (va_up F 0 (upd (F 0) 6 (1 + (i_rem (nI (zz_dr (Z 0))) ((F 0) 1))))) 3 (upd (F 3) ((i_rem (nI (zz_dr (zz_dz (Z 0)))) (N 1))).toNatClampNeg (i_rem (nI (zz_dr (zz_dz (zz_dz (Z 0))))) (((upd (F 0) 6 (1 + (i_rem (nI (zz_dr (Z 0))) ((F 0) 1)))) 0) + 1))))))
theorem kc_chg {Z N : Nat → Int32} {F : Nat → Nat → Int32} (hw : px_cw N) (hT : N 2 = N 1 ∧ N 3 = N 1 ∧ N 4 = N 1) {M : Nat} (hM : N 1 = nI M) (hM6 : M ≤ 6)  : px_PM 3 115 [.ref 0] (px_CH Z N F, []) (fun r h' => r = none ∧ ∃ Z' N' F', px_sc (s_chg Z N F).1 (s_chg Z N F).2.1 (s_chg Z N F).2.2 Z' N' F' ∧ h' = (px_CH Z' N' F', [])) := by
  refine px_PM.start (nL := 2) (code := pc_115) rfl rfl ?_
  refine px_PW.steps kt_115.2 6 rfl ?_
  refine px_PW.callV kt_115.2 rfl rfl rfl rfl (cc_draw) (by decide) (fun v h1 q => ?_)
  obtain ⟨rfl, rfl⟩ := q
  refine px_PW.steps kt_115.2 2 rfl ?_
  refine px_PW.callV kt_115.2 rfl rfl rfl rfl (cc_is (N := N) hw.1 1 (by decide)) (by decide) (fun v h1 q => ?_)
  obtain ⟨rfl, rfl⟩ := q
  refine px_PW.callS kt_115.2 rfl rfl rfl (cc_rest _ _ _) (by decide) (fun v h1 q => ?_)
  obtain ⟨rfl, rfl⟩ := q
  refine px_PW.steps kt_115.2 1 rfl ?_
  refine px_PW.callV kt_115.2 rfl rfl rfl rfl (nb_setW hw.1 6 (by decide) _) (by decide) (fun v h1 q => ?_)
  obtain ⟨rfl, rfl⟩ := q
  refine px_PW.steps kt_115.2 3 rfl ?_
  refine px_PW.callV kt_115.2 rfl rfl rfl rfl (nb_size (q := 1) (by decide)) (by decide) (fun v h1 q => ?_)
  obtain ⟨rfl, rfl⟩ := q
  refine px_PW.steps kt_115.2 1 rfl ?_
  refine px_PW.br (fun c0 => ?_) (fun c0 => ?_)
  · have c0 : (N 1) ≤ 0 := of_decide_eq_true c0
    refine px_PW.ret kt_115.2 rfl rfl ?_
    have E : s_chg Z N F = ((upd Z 0 (zz_dz (Z 0))), N, (va_up F 0 (upd (F 0) 6 (1 + (i_rem (nI (zz_dr (Z 0))) ((F 0) 1)))))) := if_pos c0
    rw [E]
    exact ⟨rfl, _, _, _, px_sc.rf, rfl⟩
  · have c0 : ¬ ((N 1) ≤ 0) := of_decide_eq_false c0
    refine px_PW.steps kt_115.2 1 rfl ?_
    refine px_PW.callV kt_115.2 rfl rfl rfl rfl (cc_draw) (by decide) (fun v h1 q => ?_)
    obtain ⟨rfl, rfl⟩ := q
    refine px_PW.steps kt_115.2 3 rfl ?_
    refine px_PW.callV kt_115.2 rfl rfl rfl rfl (nb_size (q := 1) (by decide)) (by decide) (fun v h1 q => ?_)
    obtain ⟨rfl, rfl⟩ := q
    refine px_PW.callS kt_115.2 rfl rfl rfl (cc_rest _ _ _) (by decide) (fun v h1 q => ?_)
    obtain ⟨rfl, rfl⟩ := q
    refine px_PW.steps kt_115.2 6 rfl ?_
    refine px_PW.callV kt_115.2 rfl rfl rfl rfl (cc_draw) (by decide) (fun v h1 q => ?_)
    obtain ⟨rfl, rfl⟩ := q
    refine px_PW.steps kt_115.2 2 rfl ?_
    refine px_PW.callV kt_115.2 rfl rfl rfl rfl (cc_is (N := N) hw.1 0 (by decide)) (by decide) (fun v h1 q => ?_)
    obtain ⟨rfl, rfl⟩ := q
    refine px_PW.steps kt_115.2 2 rfl ?_
    refine px_PW.callS kt_115.2 rfl rfl rfl (cc_rest _ _ _) (by decide) (fun v h1 q => ?_)
    obtain ⟨rfl, rfl⟩ := q
    refine px_PW.callV kt_115.2 rfl rfl rfl rfl (nb_setT (q := 3) (by decide) (hw.lim (by decide)) hT.2.1 (zz_remT hM hM6 (Nat.lt_trans (zz_dr_lt _) (by decide)) (Int32.not_le.mp c0)) _) (by decide) (fun v h1 q => ?_)
    obtain ⟨rfl, rfl⟩ := q
    refine px_PW.ret kt_115.2 rfl rfl ?_
    have E : s_chg Z N F = ((upd (upd (upd Z 0 (zz_dz (Z 0))) 0 (zz_dz (zz_dz (Z 0)))) 0 (zz_dz (zz_dz (zz_dz (Z 0))))), N, (va_up (va_up F 0 (upd (F 0) 6 (1 + (i_rem (nI (zz_dr (Z 0))) ((F 0) 1))))) 3 (upd (F 3) ((i_rem (nI (zz_dr (zz_dz (Z 0)))) (N 1))).toNatClampNeg (i_rem (nI (zz_dr (zz_dz (zz_dz (Z 0))))) (((upd (F 0) 6 (1 + (i_rem (nI (zz_dr (Z 0))) ((F 0) 1)))) 0) + 1))))) := if_neg c0
    rw [E]
    exact ⟨rfl, _, _, _, px_sc.rf, rfl⟩
/-- so it is m times by draws -/
def s_chgs (N : Nat → Int32) : Nat → (Nat → Int32) → (Nat → Nat → Int32) → (Nat → Int32) × (Nat → Nat → Int32)
  | 0, Z, F => (Z, F)
  | m + 1, Z, F => s_chgs N m (s_chg Z N F).1 (s_chg Z N F).2.2
theorem s_chg_N (Z N : Nat → Int32) (F : Nat → Nat → Int32) : (s_chg Z N F).2.1 = N := by
  unfold s_chg
  split <;> rfl
theorem cc_chg {Z N : Nat → Int32} {F : Nat → Nat → Int32} (hw : px_cw N) (hT : N 2 = N 1 ∧ N 3 = N 1 ∧ N 4 = N 1) {M : Nat} (hM : N 1 = nI M) (hM6 : M ≤ 6) : px_PM 3 115 [.ref 0] (px_CH Z N F, []) (fun r h' => r = none ∧ h' = (px_CH (s_chg Z N F).1 N (s_chg Z N F).2.2, [])) := by
  refine px_PM.start (nL := 2) (code := pc_115) rfl rfl ?_
  refine px_PW.steps kt_115.2 6 rfl ?_
  refine px_PW.callV kt_115.2 rfl rfl rfl rfl (cc_draw) (by decide) (fun v h1 q => ?_)
  obtain ⟨rfl, rfl⟩ := q
  refine px_PW.steps kt_115.2 2 rfl ?_
  refine px_PW.callV kt_115.2 rfl rfl rfl rfl (cc_is (N := N) hw.1 1 (by decide)) (by decide) (fun v h1 q => ?_)
  obtain ⟨rfl, rfl⟩ := q
  refine px_PW.callS kt_115.2 rfl rfl rfl (cc_rest _ _ _) (by decide) (fun v h1 q => ?_)
  obtain ⟨rfl, rfl⟩ := q
  refine px_PW.steps kt_115.2 1 rfl ?_
  refine px_PW.callV kt_115.2 rfl rfl rfl rfl (nb_setW hw.1 6 (by decide) _) (by decide) (fun v h1 q => ?_)
  obtain ⟨rfl, rfl⟩ := q
  refine px_PW.steps kt_115.2 3 rfl ?_
  refine px_PW.callV kt_115.2 rfl rfl rfl rfl (nb_size (q := 1) (by decide)) (by decide) (fun v h1 q => ?_)
  obtain ⟨rfl, rfl⟩ := q
  refine px_PW.steps kt_115.2 1 rfl ?_
  refine px_PW.br (fun c0 => ?_) (fun c0 => ?_)
  · have c0 : (N 1) ≤ 0 := of_decide_eq_true c0
    refine px_PW.ret kt_115.2 rfl rfl ?_
    have E : s_chg Z N F = ((upd Z 0 (zz_dz (Z 0))), N, (va_up F 0 (upd (F 0) 6 (1 + (i_rem (nI (zz_dr (Z 0))) ((F 0) 1)))))) := if_pos c0
    rw [E]
    exact ⟨rfl, rfl⟩
  · have c0 : ¬ ((N 1) ≤ 0) := of_decide_eq_false c0
    refine px_PW.steps kt_115.2 1 rfl ?_
    refine px_PW.callV kt_115.2 rfl rfl rfl rfl (cc_draw) (by decide) (fun v h1 q => ?_)
    obtain ⟨rfl, rfl⟩ := q
    refine px_PW.steps kt_115.2 3 rfl ?_
    refine px_PW.callV kt_115.2 rfl rfl rfl rfl (nb_size (q := 1) (by decide)) (by decide) (fun v h1 q => ?_)
    obtain ⟨rfl, rfl⟩ := q
    refine px_PW.callS kt_115.2 rfl rfl rfl (cc_rest _ _ _) (by decide) (fun v h1 q => ?_)
    obtain ⟨rfl, rfl⟩ := q
    refine px_PW.steps kt_115.2 6 rfl ?_
    refine px_PW.callV kt_115.2 rfl rfl rfl rfl (cc_draw) (by decide) (fun v h1 q => ?_)
    obtain ⟨rfl, rfl⟩ := q
    refine px_PW.steps kt_115.2 2 rfl ?_
    refine px_PW.callV kt_115.2 rfl rfl rfl rfl (cc_is (N := N) hw.1 0 (by decide)) (by decide) (fun v h1 q => ?_)
    obtain ⟨rfl, rfl⟩ := q
    refine px_PW.steps kt_115.2 2 rfl ?_
    refine px_PW.callS kt_115.2 rfl rfl rfl (cc_rest _ _ _) (by decide) (fun v h1 q => ?_)
    obtain ⟨rfl, rfl⟩ := q
    refine px_PW.callV kt_115.2 rfl rfl rfl rfl (nb_setT (q := 3) (by decide) (hw.lim (by decide)) hT.2.1 (zz_remT hM hM6 (Nat.lt_trans (zz_dr_lt _) (by decide)) (Int32.not_le.mp c0)) _) (by decide) (fun v h1 q => ?_)
    obtain ⟨rfl, rfl⟩ := q
    refine px_PW.ret kt_115.2 rfl rfl ?_
    have E : s_chg Z N F = ((upd (upd (upd Z 0 (zz_dz (Z 0))) 0 (zz_dz (zz_dz (Z 0)))) 0 (zz_dz (zz_dz (zz_dz (Z 0))))), N, (va_up (va_up F 0 (upd (F 0) 6 (1 + (i_rem (nI (zz_dr (Z 0))) ((F 0) 1))))) 3 (upd (F 3) ((i_rem (nI (zz_dr (zz_dz (Z 0)))) (N 1))).toNatClampNeg (i_rem (nI (zz_dr (zz_dz (zz_dz (Z 0))))) (((upd (F 0) 6 (1 + (i_rem (nI (zz_dr (Z 0))) ((F 0) 1)))) 0) + 1))))) := if_neg c0
    rw [E]
    exact ⟨rfl, rfl⟩
theorem c_loose_loop {N : Nat → Int32} (hw : px_cw N) (hT : N 2 = N 1 ∧ N 3 = N 1 ∧ N 4 = N 1) {M : Nat} (hM : N 1 = nI M) (hM6 : M ≤ 6) {n : Nat} (hn : n ≤ 40) {Q : Option Value → px_H → Prop} : ∀ (m k : Nat) (Z : Nat → Int32) (F : Nat → Nat → Int32), k + m = n → (px_PW 3 pc_65 Q 34 [some (.ref 0), some (.int (nI n)), some (.int (nI n))] [] (px_CH (s_chgs N m Z F).1 N (s_chgs N m Z F).2, [])) → px_PW 3 pc_65 Q 19 [some (.ref 0), some (.int (nI n)), some (.int (nI k))] [] (px_CH Z N F, [])
  | m, k, Z, F, hk, H => by
    refine px_PW.steps kt_65.2 3 rfl ?_
    refine px_PW.br (fun c0 => ?_) (fun c0 => ?_)
    · have c0 : (nI n) ≤ (nI k) := of_decide_eq_true c0
      have c0 : n ≤ k := by exact (nI_leI (a := n) (b := k) (by omega) (by omega)).mp c0
      obtain rfl : m = 0 := by omega
      obtain rfl : k = n := by omega
      exact H
    · have c0 : ¬ ((nI n) ≤ (nI k)) := of_decide_eq_false c0
      have c0 : ¬ (n ≤ k) := fun q => c0 (by exact (nI_leI (a := n) (b := k) (by omega) (by omega)).mpr q)
      obtain ⟨m2, rfl⟩ : ∃ m2, m = m2 + 1 := ⟨m - 1, by omega⟩
      refine px_PW.steps kt_65.2 1 rfl ?_
      refine px_PW.callV kt_65.2 rfl rfl rfl rfl (cc_chg hw hT hM hM6) (by decide) (fun v h1 q => ?_)
      obtain ⟨rfl, rfl⟩ := q
      refine px_PW.steps kt_65.2 2 rfl ?_
      have g := c_loose_loop hw hT hM hM6 hn (Q := Q) m2 (k + 1) _ _ (by omega) H
      rw [nI_succ] at g
      exact g
theorem px_in40 {n : Int32} (a : ¬ (n < 1)) (b : n ≤ 40) : n = nI n.toNatClampNeg ∧ n.toNatClampNeg ≤ 40 := by
  have h0 : ¬ n < 0 := fun q => a (Int32.lt_trans q (by decide))
  obtain ⟨k, hk, rfl⟩ := nI_of h0
  rw [show (40 : Int32) = nI 40 from rfl, nI_leI (by omega) (by omega)] at b
  rw [nI_clamp (by omega)]
  exact ⟨rfl, b⟩
def s_loose (Z N : Nat → Int32) (F : Nat → Nat → Int32) (n : Int32) : Int32 × (Nat → Int32) × (Nat → Int32) × (Nat → Nat → Int32) := (if n < 1 then ((-1000000000 - 1), Z, N, F) else (if n ≤ 40 then ((((s_chgs N n.toNatClampNeg Z F).2 0) 6), (s_chgs N n.toNatClampNeg Z F).1, N, (s_chgs N n.toNatClampNeg Z F).2) else ((-1000000000 - 1), Z, N, F)))
theorem kc_loose {Z N : Nat → Int32} {F : Nat → Nat → Int32} (hw : px_cw N) (hT : N 2 = N 1 ∧ N 3 = N 1 ∧ N 4 = N 1) {M : Nat} (hM : N 1 = nI M) (hM6 : M ≤ 6) (n : Int32) : px_PM 4 65 [.ref 0, .int n] (px_CH Z N F, []) (fun r h' => r = some (.int (s_loose Z N F n).1) ∧ ∃ Z' N' F', px_sc (s_loose Z N F n).2.1 (s_loose Z N F n).2.2.1 (s_loose Z N F n).2.2.2 Z' N' F' ∧ h' = (px_CH Z' N' F', [])) := by
  refine px_PM.start (nL := 3) (code := pc_65) rfl rfl ?_
  refine px_PW.steps kt_65.2 3 rfl ?_
  refine px_PW.br (fun c0 => ?_) (fun c0 => ?_)
  · have c0 : n < 1 := of_decide_eq_true c0
    refine px_PW.steps kt_65.2 2 rfl ?_
    refine px_PW.callV kt_65.2 rfl rfl rfl rfl (cc_error hw.2.2.1 1 (by decide)) (by decide) (fun v h1 q => ?_)
    obtain ⟨rfl, rfl⟩ := q
    refine px_PW.ret kt_65.2 rfl rfl ?_
    have E : s_loose Z N F n = ((-1000000000 - 1), Z, N, F) := if_pos c0
    rw [E]
    exact ⟨rfl, _, _, _, px_sc.err, rfl⟩
  · have c0 : ¬ (n < 1) := of_decide_eq_false c0
    refine px_PW.steps kt_65.2 3 rfl ?_
    refine px_PW.br (fun c1 => ?_) (fun c1 => ?_)
    · have c1 : n ≤ 40 := of_decide_eq_true c1
      refine px_PW.steps kt_65.2 2 rfl ?_
      have hn := px_in40 c0 c1
      refine px_PW.lc (lv' := [some (.ref 0), some (.int (nI n.toNatClampNeg)), some (.int (nI 0))]) (by rw [← hn.1]; rfl) ?_
      refine c_loose_loop hw hT hM hM6 hn.2 n.toNatClampNeg 0 Z F (by omega) ?_
      refine px_PW.steps kt_65.2 2 rfl ?_
      refine px_PW.callV kt_65.2 rfl rfl rfl rfl (cc_is (N := N) hw.1 6 (by decide)) (by decide) (fun v h1 q => ?_)
      obtain ⟨rfl, rfl⟩ := q
      refine px_PW.ret kt_65.2 rfl rfl ?_
      have E : s_loose Z N F n = ((((s_chgs N n.toNatClampNeg Z F).2 0) 6), (s_chgs N n.toNatClampNeg Z F).1, N, (s_chgs N n.toNatClampNeg Z F).2) := (if_neg c0).trans (if_pos c1)
      rw [E]
      exact ⟨rfl, _, _, _, px_sc.rf, rfl⟩
    · have c1 : ¬ (n ≤ 40) := of_decide_eq_false c1
      refine px_PW.steps kt_65.2 2 rfl ?_
      refine px_PW.callV kt_65.2 rfl rfl rfl rfl (cc_error hw.2.2.1 1 (by decide)) (by decide) (fun v h1 q => ?_)
      obtain ⟨rfl, rfl⟩ := q
      refine px_PW.ret kt_65.2 rfl rfl ?_
      have E : s_loose Z N F n = ((-1000000000 - 1), Z, N, F) := (if_neg c0).trans (if_neg c1)
      rw [E]
      exact ⟨rfl, _, _, _, px_sc.err, rfl⟩
def s_middle (Z N : Nat → Int32) (F : Nat → Nat → Int32) (what : Int32) : Int32 := (if what < 0 then (-1000000000 - 1) else (if what ≤ 1 then (if what = 0 then (if (i_rem ((((F 0) 0) - ((F 0) 2)) / 2) (((F 0) 1) + ((F 0) 2))) < 1 then ((F 0) 1) else (if (i_rem ((((F 0) 0) - ((F 0) 2)) / 2) (((F 0) 1) + ((F 0) 2))) ≤ ((F 0) 1) then (i_rem ((((F 0) 0) - ((F 0) 2)) / 2) (((F 0) 1) + ((F 0) 2))) else ((F 0) 1))) else (if (i_rem (((((F 0) 0) - ((F 0) 1)) / 2) - ((F 0) 2)) (((F 0) 1) + ((F 0) 2))) < 1 then ((F 0) 1) else (if (i_rem (((((F 0) 0) - ((F 0) 1)) / 2) - ((F 0) 2)) (((F 0) 1) + ((F 0) 2))) ≤ ((F 0) 1) then (i_rem (((((F 0) 0) - ((F 0) 1)) / 2) - ((F 0) 2)) (((F 0) 1) + ((F 0) 2))) else ((F 0) 1)))) else (-1000000000 - 1)))
theorem kc_middle {Z N : Nat → Int32} {F : Nat → Nat → Int32} (hw : px_cw N) (what : Int32) : px_PM 3 70 [.ref 0, .int what] (px_CH Z N F, []) (fun r h' => r = some (.int (s_middle Z N F what)) ∧ ∃ Z' N' F', px_sc Z N F Z' N' F' ∧ h' = (px_CH Z' N' F', [])) := by
  refine px_PM.start (nL := 4) (code := pc_70) rfl rfl ?_
  refine px_PW.steps kt_70.2 2 rfl ?_
  refine px_PW.br (fun c0 => ?_) (fun c0 => ?_)
  · have c0 : what < 0 := of_decide_eq_true c0
    refine px_PW.steps kt_70.2 2 rfl ?_
    refine px_PW.callV kt_70.2 rfl rfl rfl rfl (cc_error hw.2.2.1 1 (by decide)) (by decide) (fun v h1 q => ?_)
    obtain ⟨rfl, rfl⟩ := q
    refine px_PW.ret kt_70.2 rfl rfl ?_
    have E : s_middle Z N F what = (-1000000000 - 1) := if_pos c0
    rw [E]
    exact ⟨rfl, _, _, _, px_sc.err, rfl⟩
  · have c0 : ¬ (what < 0) := of_decide_eq_false c0
    refine px_PW.steps kt_70.2 3 rfl ?_
    refine px_PW.br (fun c1 => ?_) (fun c1 => ?_)
    · have c1 : what ≤ 1 := of_decide_eq_true c1
      refine px_PW.steps kt_70.2 2 rfl ?_
      refine px_PW.br (fun c2 => ?_) (fun c2 => ?_)
      · have c2 : ¬ (what = 0) := of_decide_eq_false (px_nt c2)
        refine px_PW.steps kt_70.2 2 rfl ?_
        refine px_PW.callV kt_70.2 rfl rfl rfl rfl (cc_is (N := N) hw.1 0 (by decide)) (by decide) (fun v h1 q => ?_)
        obtain ⟨rfl, rfl⟩ := q
        refine px_PW.steps kt_70.2 2 rfl ?_
        refine px_PW.callV kt_70.2 rfl rfl rfl rfl (cc_is (N := N) hw.1 1 (by decide)) (by decide) (fun v h1 q => ?_)
        obtain ⟨rfl, rfl⟩ := q
        refine px_PW.steps kt_70.2 5 rfl ?_
        refine px_PW.callV kt_70.2 rfl rfl rfl rfl (cc_is (N := N) hw.1 2 (by decide)) (by decide) (fun v h1 q => ?_)
        obtain ⟨rfl, rfl⟩ := q
        refine px_PW.steps kt_70.2 5 rfl ?_
        refine px_PW.callV kt_70.2 rfl rfl rfl rfl (cc_is (N := N) hw.1 1 (by decide)) (by decide) (fun v h1 q => ?_)
        obtain ⟨rfl, rfl⟩ := q
        refine px_PW.steps kt_70.2 2 rfl ?_
        refine px_PW.callV kt_70.2 rfl rfl rfl rfl (cc_is (N := N) hw.1 2 (by decide)) (by decide) (fun v h1 q => ?_)
        obtain ⟨rfl, rfl⟩ := q
        refine px_PW.steps kt_70.2 1 rfl ?_
        refine px_PW.callS kt_70.2 rfl rfl rfl (cc_rest _ _ _) (by decide) (fun v h1 q => ?_)
        obtain ⟨rfl, rfl⟩ := q
        refine px_PW.steps kt_70.2 4 rfl ?_
        refine px_PW.br (fun c3 => ?_) (fun c3 => ?_)
        · have c3 : (i_rem (((((F 0) 0) - ((F 0) 1)) / 2) - ((F 0) 2)) (((F 0) 1) + ((F 0) 2))) < 1 := of_decide_eq_true c3
          refine px_PW.steps kt_70.2 2 rfl ?_
          refine px_PW.callV kt_70.2 rfl rfl rfl rfl (cc_is (N := N) hw.1 1 (by decide)) (by decide) (fun v h1 q => ?_)
          obtain ⟨rfl, rfl⟩ := q
          refine px_PW.steps kt_70.2 1 rfl ?_
          refine px_PW.ret kt_70.2 rfl rfl ?_
          have E : s_middle Z N F what = ((F 0) 1) := (if_neg c0).trans ((if_pos c1).trans ((if_neg c2).trans (if_pos c3)))
          rw [E]
          exact ⟨rfl, _, _, _, px_sc.rf, rfl⟩
        · have c3 : ¬ ((i_rem (((((F 0) 0) - ((F 0) 1)) / 2) - ((F 0) 2)) (((F 0) 1) + ((F 0) 2))) < 1) := of_decide_eq_false c3
          refine px_PW.steps kt_70.2 3 rfl ?_
          refine px_PW.callV kt_70.2 rfl rfl rfl rfl (cc_is (N := N) hw.1 1 (by decide)) (by decide) (fun v h1 q => ?_)
          obtain ⟨rfl, rfl⟩ := q
          refine px_PW.steps kt_70.2 1 rfl ?_
          refine px_PW.br (fun c4 => ?_) (fun c4 => ?_)
          · have c4 : (i_rem (((((F 0) 0) - ((F 0) 1)) / 2) - ((F 0) 2)) (((F 0) 1) + ((F 0) 2))) ≤ ((F 0) 1) := of_decide_eq_true c4
            refine px_PW.steps kt_70.2 1 rfl ?_
            refine px_PW.ret kt_70.2 rfl rfl ?_
            have E : s_middle Z N F what = (i_rem (((((F 0) 0) - ((F 0) 1)) / 2) - ((F 0) 2)) (((F 0) 1) + ((F 0) 2))) := (if_neg c0).trans ((if_pos c1).trans ((if_neg c2).trans ((if_neg c3).trans (if_pos c4))))
            rw [E]
            exact ⟨rfl, _, _, _, px_sc.rf, rfl⟩
          · have c4 : ¬ ((i_rem (((((F 0) 0) - ((F 0) 1)) / 2) - ((F 0) 2)) (((F 0) 1) + ((F 0) 2))) ≤ ((F 0) 1)) := of_decide_eq_false c4
            refine px_PW.steps kt_70.2 2 rfl ?_
            refine px_PW.callV kt_70.2 rfl rfl rfl rfl (cc_is (N := N) hw.1 1 (by decide)) (by decide) (fun v h1 q => ?_)
            obtain ⟨rfl, rfl⟩ := q
            refine px_PW.steps kt_70.2 1 rfl ?_
            refine px_PW.ret kt_70.2 rfl rfl ?_
            have E : s_middle Z N F what = ((F 0) 1) := (if_neg c0).trans ((if_pos c1).trans ((if_neg c2).trans ((if_neg c3).trans (if_neg c4))))
            rw [E]
            exact ⟨rfl, _, _, _, px_sc.rf, rfl⟩
      · have c2 : what = 0 := of_decide_eq_true (px_nf c2)
        refine px_PW.steps kt_70.2 2 rfl ?_
        refine px_PW.callV kt_70.2 rfl rfl rfl rfl (cc_is (N := N) hw.1 0 (by decide)) (by decide) (fun v h1 q => ?_)
        obtain ⟨rfl, rfl⟩ := q
        refine px_PW.steps kt_70.2 2 rfl ?_
        refine px_PW.callV kt_70.2 rfl rfl rfl rfl (cc_is (N := N) hw.1 2 (by decide)) (by decide) (fun v h1 q => ?_)
        obtain ⟨rfl, rfl⟩ := q
        refine px_PW.steps kt_70.2 8 rfl ?_
        refine px_PW.callV kt_70.2 rfl rfl rfl rfl (cc_is (N := N) hw.1 1 (by decide)) (by decide) (fun v h1 q => ?_)
        obtain ⟨rfl, rfl⟩ := q
        refine px_PW.steps kt_70.2 2 rfl ?_
        refine px_PW.callV kt_70.2 rfl rfl rfl rfl (cc_is (N := N) hw.1 2 (by decide)) (by decide) (fun v h1 q => ?_)
        obtain ⟨rfl, rfl⟩ := q
        refine px_PW.steps kt_70.2 1 rfl ?_
        refine px_PW.callS kt_70.2 rfl rfl rfl (cc_rest _ _ _) (by decide) (fun v h1 q => ?_)
        obtain ⟨rfl, rfl⟩ := q
        refine px_PW.steps kt_70.2 4 rfl ?_
        refine px_PW.br (fun c5 => ?_) (fun c5 => ?_)
        · have c5 : (i_rem ((((F 0) 0) - ((F 0) 2)) / 2) (((F 0) 1) + ((F 0) 2))) < 1 := of_decide_eq_true c5
          refine px_PW.steps kt_70.2 2 rfl ?_
          refine px_PW.callV kt_70.2 rfl rfl rfl rfl (cc_is (N := N) hw.1 1 (by decide)) (by decide) (fun v h1 q => ?_)
          obtain ⟨rfl, rfl⟩ := q
          refine px_PW.steps kt_70.2 1 rfl ?_
          refine px_PW.ret kt_70.2 rfl rfl ?_
          have E : s_middle Z N F what = ((F 0) 1) := (if_neg c0).trans ((if_pos c1).trans ((if_pos c2).trans (if_pos c5)))
          rw [E]
          exact ⟨rfl, _, _, _, px_sc.rf, rfl⟩
        · have c5 : ¬ ((i_rem ((((F 0) 0) - ((F 0) 2)) / 2) (((F 0) 1) + ((F 0) 2))) < 1) := of_decide_eq_false c5
          refine px_PW.steps kt_70.2 3 rfl ?_
          refine px_PW.callV kt_70.2 rfl rfl rfl rfl (cc_is (N := N) hw.1 1 (by decide)) (by decide) (fun v h1 q => ?_)
          obtain ⟨rfl, rfl⟩ := q
          refine px_PW.steps kt_70.2 1 rfl ?_
          refine px_PW.br (fun c6 => ?_) (fun c6 => ?_)
          · have c6 : (i_rem ((((F 0) 0) - ((F 0) 2)) / 2) (((F 0) 1) + ((F 0) 2))) ≤ ((F 0) 1) := of_decide_eq_true c6
            refine px_PW.steps kt_70.2 1 rfl ?_
            refine px_PW.ret kt_70.2 rfl rfl ?_
            have E : s_middle Z N F what = (i_rem ((((F 0) 0) - ((F 0) 2)) / 2) (((F 0) 1) + ((F 0) 2))) := (if_neg c0).trans ((if_pos c1).trans ((if_pos c2).trans ((if_neg c5).trans (if_pos c6))))
            rw [E]
            exact ⟨rfl, _, _, _, px_sc.rf, rfl⟩
          · have c6 : ¬ ((i_rem ((((F 0) 0) - ((F 0) 2)) / 2) (((F 0) 1) + ((F 0) 2))) ≤ ((F 0) 1)) := of_decide_eq_false c6
            refine px_PW.steps kt_70.2 2 rfl ?_
            refine px_PW.callV kt_70.2 rfl rfl rfl rfl (cc_is (N := N) hw.1 1 (by decide)) (by decide) (fun v h1 q => ?_)
            obtain ⟨rfl, rfl⟩ := q
            refine px_PW.steps kt_70.2 1 rfl ?_
            refine px_PW.ret kt_70.2 rfl rfl ?_
            have E : s_middle Z N F what = ((F 0) 1) := (if_neg c0).trans ((if_pos c1).trans ((if_pos c2).trans ((if_neg c5).trans (if_neg c6))))
            rw [E]
            exact ⟨rfl, _, _, _, px_sc.rf, rfl⟩
    · have c1 : ¬ (what ≤ 1) := of_decide_eq_false c1
      refine px_PW.steps kt_70.2 2 rfl ?_
      refine px_PW.callV kt_70.2 rfl rfl rfl rfl (cc_error hw.2.2.1 1 (by decide)) (by decide) (fun v h1 q => ?_)
      obtain ⟨rfl, rfl⟩ := q
      refine px_PW.ret kt_70.2 rfl rfl ?_
      have E : s_middle Z N F what = (-1000000000 - 1) := (if_neg c0).trans (if_neg c1)
      rw [E]
      exact ⟨rfl, _, _, _, px_sc.err, rfl⟩
