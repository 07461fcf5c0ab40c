theorem px_room1 {x y : Int32} {L : Nat} (hL : L ≤ 60) (h0 : 0 ≤ x) (h1 : x.toInt ≤ L) (c : y ≤ nI L - x) (hy : 1 ≤ y) : x < nI L := by
  obtain ⟨n, hn, rfl⟩ := nI_of (Int32.not_lt.mpr h0)
  rw [nI_toInt hn] at h1
  have e : nI L - nI n = nI (L - n) := by
    have h := nI_add (L - n) n
    rw [show L - n + n = L by omega] at h
    rw [← h]
    exact Int32.add_sub_cancel _ _
  rw [e] at c
  rw [nI_ltI (by omega) (by omega)]
  have c2 := Int32.le_trans hy c
  rw [show (1 : Int32) = nI 1 from rfl, nI_leI (by omega) (by omega)] at c2
  omega
theorem nb_addR {Z N : Nat → Int32} {F : Nat → Nat → Int32} {q : Nat} (hq : q < 27) (v : Int32) (h0 : 0 ≤ N q) (hr : N q < Int32.ofNat (px_lim q)) : px_PM 1 8 [.ref (px_O q), .int v] (px_CH Z N F, []) (fun r h' => r = none ∧ h' = (px_CH Z (upd N q (N q + 1)) (va_up F q (upd (F q) (N q).toNatClampNeg v)), [])) := by
  have h := nb_add (Z := Z) (N := N) (F := F) hq v h0
  rw [if_neg (Int32.not_le.mpr hr), if_neg (Int32.not_le.mpr hr)] at h
  exact h
theorem cc_textOf0 {Z N : Nat → Int32} {F : Nat → Nat → Int32} : px_PM 1 0 [.ref 1, .int 0] (px_CH Z N F, []) (fun r h' => r = some (.ref 14) ∧ h' = (px_CH Z N F, [])) := ⟨20, _, _, rfl, rfl, rfl⟩
theorem cc_textOf1 {Z N : Nat → Int32} {F : Nat → Nat → Int32} : px_PM 1 0 [.ref 1, .int 1] (px_CH Z N F, []) (fun r h' => r = some (.ref 16) ∧ h' = (px_CH Z N F, [])) := ⟨20, _, _, rfl, rfl, rfl⟩
theorem cc_sheetAt {Z N : Nat → Int32} {F : Nat → Nat → Int32} (k : Nat) (hk : k < 4) : px_PM 1 90 [.ref 0, .int (nI k)] (px_CH Z N F, []) (fun r h' => r = some (.ref (42 + 3 * k)) ∧ h' = (px_CH Z N F, [])) := by
  match k, hk with
  | 0, _ => exact ⟨20, _, _, rfl, rfl, rfl⟩
  | 1, _ => exact ⟨20, _, _, rfl, rfl, rfl⟩
  | 2, _ => exact ⟨20, _, _, rfl, rfl, rfl⟩
  | 3, _ => exact ⟨20, _, _, rfl, rfl, rfl⟩
theorem ch_sh {Z N : Nat → Int32} {F : Nat → Nat → Int32} {k : Nat} (hk : k < 4) : px_cell (px_CH Z N F, []) (42 + 3 * k) = some (.inr (5, [.ref (px_O (19 + k)), .int (Z (2 + k))])) := by
  match k, hk with
  | 0, _ => rfl
  | 1, _ => rfl
  | 2, _ => rfl
  | 3, _ => rfl
theorem ch_isSh {Z N : Nat → Int32} {F : Nat → Nat → Int32} {k : Nat} (hk : k < 4) : px_isO (px_CH Z N F, []) (42 + 3 * k) 5 = true := by
  unfold px_isO
  rw [ch_sh hk]
  rfl
theorem px_op_sh {d : Nat} {code : Nat → Option px_A} (hT : px_frT code) {Q : Option Value → px_H → Prop} {pc : Nat} {x : Int32} {lv : px_L} {r : List Value} {Z N : Nat → Int32} {F : Nat → Nat → Int32} {k : Nat} (hk : k < 4) (hc : code pc = some (px_putf true 5 1)) (kk : px_PW d code Q (pc + 3) lv r (px_CH (upd Z (2 + k) x) N F, [])) : px_PW d code Q pc lv (.int x :: .ref (42 + 3 * k) :: r) (px_CH Z N F, []) := by
  match k, hk with
  | 0, _ => exact px_PW.putf hT hc rfl rfl kk
  | 1, _ => exact px_PW.putf hT hc rfl rfl kk
  | 2, _ => exact px_PW.putf hT hc rfl rfl kk
  | 3, _ => exact px_PW.putf hT hc rfl rfl kk
theorem Int32.lt_of_eq_of_lt {a b c : Int32} (h : a = b) (k : b < c) : a < c := by rw [h]; exact k
def s_thing (Z N : Nat → Int32) (F : Nat → Nat → Int32) (km : Int32) (from_ : Int32) (width : Int32) : Int32 × (Nat → Int32) × (Nat → Int32) × (Nat → Nat → Int32) := (if km < 0 ∨ 69 < km then ((-1000000000 - 1), Z, N, F) else (if from_ < 0 ∨ 4000 < from_ then ((-1000000000 - 1), Z, N, F) else (if width < 1 then ((-1000000000 - 1), Z, N, F) else (if width ≤ 999 then (if 1 ≤ (6 - (N 1)) then ((((N 1) + 1) - 1), Z, (upd (upd (upd (upd N 1 ((N 1) + 1)) 2 ((N 2) + 1)) 3 ((N 3) + 1)) 4 ((N 4) + 1)), (va_up (va_up (va_up (va_up F 1 (upd (F 1) ((N 1)).toNatClampNeg (km / 10))) 2 (upd (F 2) ((N 2)).toNatClampNeg (km - km / 10 * 10))) 3 (upd (F 3) ((N 3)).toNatClampNeg from_)) 4 (upd (F 4) ((N 4)).toNatClampNeg width))) else ((-1000000000 - 4), Z, N, F)) else ((-1000000000 - 1), Z, N, F)))))
theorem kc_thing {Z N : Nat → Int32} {F : Nat → Nat → Int32} (hw : px_cw N) (hT : N 2 = N 1 ∧ N 3 = N 1 ∧ N 4 = N 1) (km : Int32) (from_ : Int32) (width : Int32) : px_PM 3 52 [.ref 0, .int km, .int from_, .int width] (px_CH Z N F, []) (fun r h' => r = some (.int (s_thing Z N F km from_ width).1) ∧ ∃ Z' N' F', px_sc (s_thing Z N F km from_ width).2.1 (s_thing Z N F km from_ width).2.2.1 (s_thing Z N F km from_ width).2.2.2 Z' N' F' ∧ h' = (px_CH Z' N' F', [])) := by
  refine px_PM.start (nL := 4) (code := pc_52) rfl rfl ?_
  refine px_PW.steps kt_52.2 1 rfl ?_
  refine px_PW.callS kt_52.2 rfl rfl rfl (cc_isKM _ _) (by decide) (fun v h1 q => ?_)
  obtain ⟨rfl, rfl⟩ := q
  refine px_PW.steps kt_52.2 1 rfl ?_
  refine px_PW.br (fun c0 => ?_) (fun c0 => ?_)
  · have c0 : km < 0 ∨ 69 < km := px_b0z (of_decide_eq_true c0)
    refine px_PW.steps kt_52.2 2 rfl ?_
    refine px_PW.callV kt_52.2 rfl rfl rfl rfl (cc_error hw.2.2.1 1 (by decide)) (by decide) (fun v h1 q => ?_)
    obtain ⟨rfl, rfl⟩ := q
    refine px_PW.ret kt_52.2 rfl rfl ?_
    have E : s_thing Z N F km from_ width = ((-1000000000 - 1), Z, N, F) := if_pos c0
    rw [E]
    exact ⟨rfl, _, _, _, px_sc.err, rfl⟩
  · have c0 : ¬ (km < 0 ∨ 69 < km) := px_b0n (of_decide_eq_false c0)
    refine px_PW.steps kt_52.2 1 rfl ?_
    refine px_PW.callS kt_52.2 rfl rfl rfl (cc_isFrom _ _) (by decide) (fun v h1 q => ?_)
    obtain ⟨rfl, rfl⟩ := q
    refine px_PW.steps kt_52.2 1 rfl ?_
    refine px_PW.br (fun c1 => ?_) (fun c1 => ?_)
    · have c1 : from_ < 0 ∨ 4000 < from_ := px_b0z (of_decide_eq_true c1)
      refine px_PW.steps kt_52.2 2 rfl ?_
      refine px_PW.callV kt_52.2 rfl rfl rfl rfl (cc_error hw.2.2.1 1 (by decide)) (by decide) (fun v h1 q => ?_)
      obtain ⟨rfl, rfl⟩ := q
      refine px_PW.ret kt_52.2 rfl rfl ?_
      have E : s_thing Z N F km from_ width = ((-1000000000 - 1), Z, N, F) := (if_neg c0).trans (if_pos c1)
      rw [E]
      exact ⟨rfl, _, _, _, px_sc.err, rfl⟩
    · have c1 : ¬ (from_ < 0 ∨ 4000 < from_) := px_b0n (of_decide_eq_false c1)
      refine px_PW.steps kt_52.2 3 rfl ?_
      refine px_PW.br (fun c2 => ?_) (fun c2 => ?_)
      · have c2 : width < 1 := of_decide_eq_true c2
        refine px_PW.steps kt_52.2 2 rfl ?_
        refine px_PW.callV kt_52.2 rfl rfl rfl rfl (cc_error hw.2.2.1 1 (by decide)) (by decide) (fun v h1 q => ?_)
        obtain ⟨rfl, rfl⟩ := q
        refine px_PW.ret kt_52.2 rfl rfl ?_
        have E : s_thing Z N F km from_ width = ((-1000000000 - 1), Z, N, F) := (if_neg c0).trans ((if_neg c1).trans (if_pos c2))
        rw [E]
        exact ⟨rfl, _, _, _, px_sc.err, rfl⟩
      · have c2 : ¬ (width < 1) := of_decide_eq_false c2
        refine px_PW.steps kt_52.2 3 rfl ?_
        refine px_PW.br (fun c3 => ?_) (fun c3 => ?_)
        · have c3 : width ≤ 999 := of_decide_eq_true c3
          refine px_PW.steps kt_52.2 3 rfl ?_
          refine px_PW.callV kt_52.2 rfl rfl rfl rfl (nb_room (q := 1) (by decide)) (by decide) (fun v h1 q => ?_)
          obtain ⟨rfl, rfl⟩ := q
          refine px_PW.steps kt_52.2 2 rfl ?_
          refine px_PW.br (fun c4 => ?_) (fun c4 => ?_)
          · have c4 : 1 ≤ (6 - (N 1)) := of_decide_eq_true c4
            refine px_PW.steps kt_52.2 6 rfl ?_
            refine px_PW.callV kt_52.2 rfl rfl rfl rfl (nb_addR (N := N) (q := 1) (by decide) _ (hw.nn (q := 1) (by decide)) (px_room1 (L := 6) (by decide) (hw.nn (q := 1) (by decide)) (hw.lim (q := 1) (by decide)) c4 (by decide))) (by decide) (fun v h1 q => ?_)
            obtain ⟨rfl, rfl⟩ := q
            refine px_PW.steps kt_52.2 6 rfl ?_
            refine px_PW.callV kt_52.2 rfl rfl rfl rfl (nb_addR (N := (upd N 1 ((N 1) + 1))) (q := 2) (by decide) _ (hw.nn (q := 2) (by decide)) (Int32.lt_of_eq_of_lt hT.1 (px_room1 (L := 6) (by decide) (hw.nn (q := 1) (by decide)) (hw.lim (q := 1) (by decide)) c4 (by decide)))) (by decide) (fun v h1 q => ?_)
            obtain ⟨rfl, rfl⟩ := q
            refine px_PW.steps kt_52.2 4 rfl ?_
            refine px_PW.callV kt_52.2 rfl rfl rfl rfl (nb_addR (N := (upd (upd N 1 ((N 1) + 1)) 2 ((N 2) + 1))) (q := 3) (by decide) _ (hw.nn (q := 3) (by decide)) (Int32.lt_of_eq_of_lt hT.2.1 (px_room1 (L := 6) (by decide) (hw.nn (q := 1) (by decide)) (hw.lim (q := 1) (by decide)) c4 (by decide)))) (by decide) (fun v h1 q => ?_)
            obtain ⟨rfl, rfl⟩ := q
            refine px_PW.steps kt_52.2 4 rfl ?_
            refine px_PW.callV kt_52.2 rfl rfl rfl rfl (nb_addR (N := (upd (upd (upd N 1 ((N 1) + 1)) 2 ((N 2) + 1)) 3 ((N 3) + 1))) (q := 4) (by decide) _ (hw.nn (q := 4) (by decide)) (Int32.lt_of_eq_of_lt hT.2.2 (px_room1 (L := 6) (by decide) (hw.nn (q := 1) (by decide)) (hw.lim (q := 1) (by decide)) c4 (by decide)))) (by decide) (fun v h1 q => ?_)
            obtain ⟨rfl, rfl⟩ := q
            refine px_PW.steps kt_52.2 3 rfl ?_
            refine px_PW.callV kt_52.2 rfl rfl rfl rfl (nb_size (q := 1) (by decide)) (by decide) (fun v h1 q => ?_)
            obtain ⟨rfl, rfl⟩ := q
            refine px_PW.steps kt_52.2 2 rfl ?_
            refine px_PW.ret kt_52.2 rfl rfl ?_
            have E : s_thing Z N F km from_ width = ((((N 1) + 1) - 1), Z, (upd (upd (upd (upd N 1 ((N 1) + 1)) 2 ((N 2) + 1)) 3 ((N 3) + 1)) 4 ((N 4) + 1)), (va_up (va_up (va_up (va_up F 1 (upd (F 1) ((N 1)).toNatClampNeg (km / 10))) 2 (upd (F 2) ((N 2)).toNatClampNeg (km - km / 10 * 10))) 3 (upd (F 3) ((N 3)).toNatClampNeg from_)) 4 (upd (F 4) ((N 4)).toNatClampNeg width))) := (if_neg c0).trans ((if_neg c1).trans ((if_neg c2).trans ((if_pos c3).trans (if_pos c4))))
            rw [E]
            exact ⟨rfl, _, _, _, px_sc.rf, rfl⟩
          · have c4 : ¬ (1 ≤ (6 - (N 1))) := of_decide_eq_false c4
            refine px_PW.steps kt_52.2 2 rfl ?_
            refine px_PW.callV kt_52.2 rfl rfl rfl rfl (cc_error hw.2.2.1 4 (by decide)) (by decide) (fun v h1 q => ?_)
            obtain ⟨rfl, rfl⟩ := q
            refine px_PW.ret kt_52.2 rfl rfl ?_
            have E : s_thing Z N F km from_ width = ((-1000000000 - 4), Z, N, F) := (if_neg c0).trans ((if_neg c1).trans ((if_neg c2).trans ((if_pos c3).trans (if_neg c4))))
            rw [E]
            exact ⟨rfl, _, _, _, px_sc.err, rfl⟩
        · have c3 : ¬ (width ≤ 999) := of_decide_eq_false c3
          refine px_PW.steps kt_52.2 2 rfl ?_
          refine px_PW.callV kt_52.2 rfl rfl rfl rfl (cc_error hw.2.2.1 1 (by decide)) (by decide) (fun v h1 q => ?_)
          obtain ⟨rfl, rfl⟩ := q
          refine px_PW.ret kt_52.2 rfl rfl ?_
          have E : s_thing Z N F km from_ width = ((-1000000000 - 1), Z, N, F) := (if_neg c0).trans ((if_neg c1).trans ((if_neg c2).trans (if_neg c3)))
          rw [E]
          exact ⟨rfl, _, _, _, px_sc.err, rfl⟩
def s_tell (Z N : Nat → Int32) (F : Nat → Nat → Int32) (v : Int32) : Int32 × (Nat → Int32) × (Nat → Int32) × (Nat → Nat → Int32) := (if 1 ≤ (24 - (N 8)) then (((N 8) + 1), Z, (upd N 8 ((N 8) + 1)), (va_up F 8 (upd (F 8) ((N 8)).toNatClampNeg v))) else ((-1000000000 - 4), Z, N, F))
theorem kc_tell {Z N : Nat → Int32} {F : Nat → Nat → Int32} (hw : px_cw N) (v : Int32) : px_PM 3 82 [.ref 0, .int v] (px_CH Z N F, []) (fun r h' => r = some (.int (s_tell Z N F v).1) ∧ ∃ Z' N' F', px_sc (s_tell Z N F v).2.1 (s_tell Z N F v).2.2.1 (s_tell Z N F v).2.2.2 Z' N' F' ∧ h' = (px_CH Z' N' F', [])) := by
  refine px_PM.start (nL := 2) (code := pc_82) rfl rfl ?_
  refine px_PW.steps kt_82.2 3 rfl ?_
  refine px_PW.callV kt_82.2 rfl rfl rfl rfl (nb_room (q := 8) (by decide)) (by decide) (fun v h1 q => ?_)
  obtain ⟨rfl, rfl⟩ := q
  refine px_PW.steps kt_82.2 2 rfl ?_
  refine px_PW.br (fun c0 => ?_) (fun c0 => ?_)
  · have c0 : 1 ≤ (24 - (N 8)) := of_decide_eq_true c0
    refine px_PW.steps kt_82.2 4 rfl ?_
    refine px_PW.callV kt_82.2 rfl rfl rfl rfl (nb_addR (N := N) (q := 8) (by decide) _ (hw.nn (q := 8) (by decide)) (px_room1 (L := 24) (by decide) (hw.nn (q := 8) (by decide)) (hw.lim (q := 8) (by decide)) c0 (by decide))) (by decide) (fun v h1 q => ?_)
    obtain ⟨rfl, rfl⟩ := q
    refine px_PW.steps kt_82.2 3 rfl ?_
    refine px_PW.callV kt_82.2 rfl rfl rfl rfl (nb_size (q := 8) (by decide)) (by decide) (fun v h1 q => ?_)
    obtain ⟨rfl, rfl⟩ := q
    refine px_PW.ret kt_82.2 rfl rfl ?_
    have E : s_tell Z N F v = (((N 8) + 1), Z, (upd N 8 ((N 8) + 1)), (va_up F 8 (upd (F 8) ((N 8)).toNatClampNeg v))) := if_pos c0
    rw [E]
    exact ⟨rfl, _, _, _, px_sc.rf, rfl⟩
  · have c0 : ¬ (1 ≤ (24 - (N 8))) := of_decide_eq_false c0
    refine px_PW.steps kt_82.2 2 rfl ?_
    refine px_PW.callV kt_82.2 rfl rfl rfl rfl (cc_error hw.2.2.1 4 (by decide)) (by decide) (fun v h1 q => ?_)
    obtain ⟨rfl, rfl⟩ := q
    refine px_PW.ret kt_82.2 rfl rfl ?_
    have E : s_tell Z N F v = ((-1000000000 - 4), Z, N, F) := if_neg c0
    rw [E]
    exact ⟨rfl, _, _, _, px_sc.err, rfl⟩
def s_untell0 (Z N : Nat → Int32) (F : Nat → Nat → Int32)  : Int32 × (Nat → Int32) × (Nat → Int32) × (Nat → Nat → Int32) := (if (N 6) ≤ 0 then (0, Z, (upd N 6 0), F) else (1, Z, (upd N 6 0), F))
theorem kc_untell0 {Z N : Nat → Int32} {F : Nat → Nat → Int32} (hw : px_cw N)  : px_PM 2 59 [.ref 0, .int 0] (px_CH Z N F, []) (fun r h' => r = some (.int (s_untell0 Z N F).1) ∧ ∃ Z' N' F', px_sc (s_untell0 Z N F).2.1 (s_untell0 Z N F).2.2.1 (s_untell0 Z N F).2.2.2 Z' N' F' ∧ h' = (px_CH Z' N' F', [])) := by
  refine px_PM.start (nL := 3) (code := pc_59) rfl rfl ?_
  refine px_PW.steps kt_59.2 1 rfl ?_
  refine px_PW.callS kt_59.2 rfl rfl rfl (cc_isUse _ _) (by decide) (fun v h1 q => ?_)
  obtain ⟨rfl, rfl⟩ := q
  refine px_PW.steps kt_59.2 1 rfl ?_
  refine px_PW.br (fun c0 => ?_) (fun c0 => ?_)
  · have c0 : 0 = 0 ∨ 0 = 1 := px_b1n (of_decide_eq_false (px_nt c0))
    refine px_PW.steps kt_59.2 3 rfl ?_
    refine px_PW.callV kt_59.2 rfl rfl rfl rfl (cc_textOf0) (by decide) (fun v h1 q => ?_)
    obtain ⟨rfl, rfl⟩ := q
    refine px_PW.callV kt_59.2 rfl rfl rfl rfl (nb_size (q := 6) (by decide)) (by decide) (fun v h1 q => ?_)
    obtain ⟨rfl, rfl⟩ := q
    refine px_PW.steps kt_59.2 1 rfl ?_
    refine px_PW.br (fun c1 => ?_) (fun c1 => ?_)
    · have c1 : (N 6) ≤ 0 := of_decide_eq_true c1
      refine px_PW.steps kt_59.2 5 rfl ?_
      refine px_PW.callV kt_59.2 rfl rfl rfl rfl (cc_textOf0) (by decide) (fun v h1 q => ?_)
      obtain ⟨rfl, rfl⟩ := q
      refine px_PW.callV kt_59.2 rfl rfl rfl rfl (nb_clear (q := 6) (by decide)) (by decide) (fun v h1 q => ?_)
      obtain ⟨rfl, rfl⟩ := q
      refine px_PW.steps kt_59.2 1 rfl ?_
      refine px_PW.ret kt_59.2 rfl rfl ?_
      have E : s_untell0 Z N F = (0, Z, (upd N 6 0), F) := if_pos c1
      rw [E]
      exact ⟨rfl, _, _, _, px_sc.rf, rfl⟩
    · have c1 : ¬ ((N 6) ≤ 0) := of_decide_eq_false c1
      refine px_PW.steps kt_59.2 6 rfl ?_
      refine px_PW.callV kt_59.2 rfl rfl rfl rfl (cc_textOf0) (by decide) (fun v h1 q => ?_)
      obtain ⟨rfl, rfl⟩ := q
      refine px_PW.callV kt_59.2 rfl rfl rfl rfl (nb_clear (q := 6) (by decide)) (by decide) (fun v h1 q => ?_)
      obtain ⟨rfl, rfl⟩ := q
      refine px_PW.steps kt_59.2 1 rfl ?_
      refine px_PW.ret kt_59.2 rfl rfl ?_
      have E : s_untell0 Z N F = (1, Z, (upd N 6 0), F) := if_neg c1
      rw [E]
      exact ⟨rfl, _, _, _, px_sc.rf, rfl⟩
  · have c0 : ¬ (0 = 0 ∨ 0 = 1) := px_b1z (of_decide_eq_true (px_nf c0))
    exact absurd (Or.inl rfl) c0
def s_untell1 (Z N : Nat → Int32) (F : Nat → Nat → Int32)  : Int32 × (Nat → Int32) × (Nat → Int32) × (Nat → Nat → Int32) := (if (N 7) ≤ 0 then (0, Z, (upd N 7 0), F) else (1, Z, (upd N 7 0), F))
theorem kc_untell1 {Z N : Nat → Int32} {F : Nat → Nat → Int32} (hw : px_cw N)  : px_PM 2 59 [.ref 0, .int 1] (px_CH Z N F, []) (fun r h' => r = some (.int (s_untell1 Z N F).1) ∧ ∃ Z' N' F', px_sc (s_untell1 Z N F).2.1 (s_untell1 Z N F).2.2.1 (s_untell1 Z N F).2.2.2 Z' N' F' ∧ h' = (px_CH Z' N' F', [])) := by
  refine px_PM.start (nL := 3) (code := pc_59) rfl rfl ?_
  refine px_PW.steps kt_59.2 1 rfl ?_
  refine px_PW.callS kt_59.2 rfl rfl rfl (cc_isUse _ _) (by decide) (fun v h1 q => ?_)
  obtain ⟨rfl, rfl⟩ := q
  refine px_PW.steps kt_59.2 1 rfl ?_
  refine px_PW.br (fun c0 => ?_) (fun c0 => ?_)
  · have c0 : 1 = 0 ∨ 1 = 1 := px_b1n (of_decide_eq_false (px_nt c0))
    refine px_PW.steps kt_59.2 3 rfl ?_
    refine px_PW.callV kt_59.2 rfl rfl rfl rfl (cc_textOf1) (by decide) (fun v h1 q => ?_)
    obtain ⟨rfl, rfl⟩ := q
    refine px_PW.callV kt_59.2 rfl rfl rfl rfl (nb_size (q := 7) (by decide)) (by decide) (fun v h1 q => ?_)
    obtain ⟨rfl, rfl⟩ := q
    refine px_PW.steps kt_59.2 1 rfl ?_
    refine px_PW.br (fun c1 => ?_) (fun c1 => ?_)
    · have c1 : (N 7) ≤ 0 := of_decide_eq_true c1
      refine px_PW.steps kt_59.2 5 rfl ?_
      refine px_PW.callV kt_59.2 rfl rfl rfl rfl (cc_textOf1) (by decide) (fun v h1 q => ?_)
      obtain ⟨rfl, rfl⟩ := q
      refine px_PW.callV kt_59.2 rfl rfl rfl rfl (nb_clear (q := 7) (by decide)) (by decide) (fun v h1 q => ?_)
      obtain ⟨rfl, rfl⟩ := q
      refine px_PW.steps kt_59.2 1 rfl ?_
      refine px_PW.ret kt_59.2 rfl rfl ?_
      have E : s_untell1 Z N F = (0, Z, (upd N 7 0), F) := if_pos c1
      rw [E]
      exact ⟨rfl, _, _, _, px_sc.rf, rfl⟩
    · have c1 : ¬ ((N 7) ≤ 0) := of_decide_eq_false c1
      refine px_PW.steps kt_59.2 6 rfl ?_
      refine px_PW.callV kt_59.2 rfl rfl rfl rfl (cc_textOf1) (by decide) (fun v h1 q => ?_)
      obtain ⟨rfl, rfl⟩ := q
      refine px_PW.callV kt_59.2 rfl rfl rfl rfl (nb_clear (q := 7) (by decide)) (by decide) (fun v h1 q => ?_)
      obtain ⟨rfl, rfl⟩ := q
      refine px_PW.steps kt_59.2 1 rfl ?_
      refine px_PW.ret kt_59.2 rfl rfl ?_
      have E : s_untell1 Z N F = (1, Z, (upd N 7 0), F) := if_neg c1
      rw [E]
      exact ⟨rfl, _, _, _, px_sc.rf, rfl⟩
  · have c0 : ¬ (1 = 0 ∨ 1 = 1) := px_b1z (of_decide_eq_true (px_nf c0))
    exact absurd (Or.inr rfl) c0

def s_untellB (Z N : Nat → Int32) (F : Nat → Nat → Int32) (use : Int32) : Int32 × (Nat → Int32) × (Nat → Int32) × (Nat → Nat → Int32) := ((-1000000000 - 1), Z, N, F)
theorem kc_untellB {Z N : Nat → Int32} {F : Nat → Nat → Int32} (hw : px_cw N) (use : Int32) (hu : ¬ (use = 0 ∨ use = 1)) : px_PM 3 59 [.ref 0, .int use] (px_CH Z N F, []) (fun r h' => r = some (.int (s_untellB Z N F use).1) ∧ ∃ Z' N' F', px_sc (s_untellB Z N F use).2.1 (s_untellB Z N F use).2.2.1 (s_untellB Z N F use).2.2.2 Z' N' F' ∧ h' = (px_CH Z' N' F', [])) := by
  refine px_PM.start (nL := 3) (code := pc_59) rfl rfl ?_
  refine px_PW.steps kt_59.2 1 rfl ?_
  refine px_PW.callS kt_59.2 rfl rfl rfl (cc_isUse _ _) (by decide) (fun v h1 q => ?_)
  obtain ⟨rfl, rfl⟩ := q
  refine px_PW.steps kt_59.2 1 rfl ?_
  refine px_PW.br (fun c0 => ?_) (fun c0 => ?_)
  · have c0 : use = 0 ∨ use = 1 := px_b1n (of_decide_eq_false (px_nt c0))
    exact absurd c0 hu
  · have c0 : ¬ (use = 0 ∨ use = 1) := px_b1z (of_decide_eq_true (px_nf c0))
    refine px_PW.steps kt_59.2 2 rfl ?_
    refine px_PW.callV kt_59.2 rfl rfl rfl rfl (cc_error hw.2.2.1 1 (by decide)) (by decide) (fun v h1 q => ?_)
    obtain ⟨rfl, rfl⟩ := q
    refine px_PW.ret kt_59.2 rfl rfl ?_
    have E : s_untellB Z N F use = ((-1000000000 - 1), Z, N, F) := rfl
    rw [E]
    exact ⟨rfl, _, _, _, px_sc.err, rfl⟩
theorem cc_isMissing {Z N : Nat → Int32} {F : Nat → Nat → Int32} {k : Nat} (hk : k < 4) : px_PM 1 41 [.ref (42 + 3 * k)] (px_CH Z N F, []) (fun r h' => r = some (.int (if Z (2 + k) = 0 then 1 else 0)) ∧ h' = (px_CH Z N F, [])) := by
  refine px_PM.start (nL := 1) (code := pc_41) rfl rfl ?_
  refine px_PW.steps kt_41.2 1 rfl ?_
  refine px_PW.getf kt_41.2 rfl (ch_sh hk) rfl ?_
  refine px_PW.steps kt_41.2 1 rfl ?_
  refine px_PW.br (fun c0 => ?_) (fun c0 => ?_)
  · have c0 : ¬ ((Z (2 + k)) = 0) := of_decide_eq_false (px_nt c0)
    refine px_PW.steps kt_41.2 1 rfl ?_
    refine px_PW.ret kt_41.2 rfl rfl ?_
    exact ⟨by simp [*], rfl⟩
  · have c0 : (Z (2 + k)) = 0 := of_decide_eq_true (px_nf c0)
    refine px_PW.steps kt_41.2 2 rfl ?_
    refine px_PW.ret kt_41.2 rfl rfl ?_
    exact ⟨by simp [*], rfl⟩
def s_low (b v : Int32) : Int32 := if b = 8 then v.toInt8.toInt32 else if b = 16 then v.toInt16.toInt32 else v
theorem cc_low {Z N : Nat → Int32} {F : Nat → Nat → Int32} {k : Nat} (hk : k < 4) (v : Int32) : px_PM 1 42 [.ref (42 + 3 * k), .int v] (px_CH Z N F, []) (fun r h' => r = some (.int (s_low (Z (2 + k)) v)) ∧ h' = (px_CH Z N F, [])) := by
  refine px_PM.start (nL := 2) (code := pc_42) rfl rfl ?_
  refine px_PW.steps kt_42.2 1 rfl ?_
  refine px_PW.getf kt_42.2 rfl (ch_sh hk) rfl ?_
  refine px_PW.steps kt_42.2 2 rfl ?_
  refine px_PW.br (fun c0 => ?_) (fun c0 => ?_)
  · have c0 : ¬ ((Z (2 + k)) = 8) := of_decide_eq_false (px_nt c0)
    refine px_PW.steps kt_42.2 1 rfl ?_
    refine px_PW.getf kt_42.2 rfl (ch_sh hk) rfl ?_
    refine px_PW.steps kt_42.2 2 rfl ?_
    refine px_PW.br (fun c1 => ?_) (fun c1 => ?_)
    · have c1 : ¬ ((Z (2 + k)) = 16) := of_decide_eq_false (px_nt c1)
      refine px_PW.steps kt_42.2 1 rfl ?_
      refine px_PW.ret kt_42.2 rfl rfl ?_
      exact ⟨by simp [s_low, *], rfl⟩
    · have c1 : (Z (2 + k)) = 16 := of_decide_eq_true (px_nf c1)
      refine px_PW.steps kt_42.2 3 rfl ?_
      refine px_PW.ret kt_42.2 rfl rfl ?_
      exact ⟨by simp [s_low, *], rfl⟩
  · have c0 : (Z (2 + k)) = 8 := of_decide_eq_true (px_nf c0)
    refine px_PW.steps kt_42.2 2 rfl ?_
    refine px_PW.ret kt_42.2 rfl rfl ?_
    exact ⟨by simp [s_low, *], rfl⟩
theorem cc_sheetAtB {Z N : Nat → Int32} {F : Nat → Nat → Int32} (i : Int32) (hi : i < 0 ∨ 4 ≤ i) : px_PM 1 90 [.ref 0, .int i] (px_CH Z N F, []) (fun r h' => r = some .null ∧ h' = (px_CH Z N F, [])) := by
  refine px_PM.start (nL := 2) (code := pc_90) rfl rfl ?_
  by_cases c0 : i < 0
  · refine px_PW.steps kt_90.2 2 rfl ?_
    refine px_PW.br (fun c => ?_) (fun c => ?_)
    · refine px_PW.steps kt_90.2 1 rfl ?_
      exact px_PW.ret kt_90.2 rfl rfl ⟨rfl, rfl⟩
    · exact absurd c0 (of_decide_eq_false c)
  · refine px_PW.steps kt_90.2 2 rfl ?_
    refine px_PW.br (fun c => ?_) (fun c => ?_)
    · exact absurd (of_decide_eq_true c) c0
    · refine px_PW.steps kt_90.2 5 rfl ?_
      refine px_PW.br (fun c2 => ?_) (fun c2 => ?_)
      · refine px_PW.steps kt_90.2 1 rfl ?_
        exact px_PW.ret kt_90.2 rfl rfl ⟨rfl, rfl⟩
      · exact absurd (hi.resolve_left c0) (of_decide_eq_false c2)
theorem nb_setS {Z N : Nat → Int32} {F : Nat → Nat → Int32} {q : Nat} (hq : q < 27) {i : Int32} (hl : (N q).toInt ≤ px_lim q) (hi : ¬ (i < 0 ∨ N q ≤ i)) (v : Int32) : px_PM 1 7 [.ref (px_O q), .int i, .int v] (px_CH Z N F, []) (fun r h' => r = none ∧ h' = (px_CH Z N (va_up F q (upd (F q) i.toNatClampNeg v)), [])) := by
  have h := nb_set (Z := Z) (N := N) (F := F) hq i v hl
  rw [if_neg hi] at h
  exact h
theorem nb_takeS {Z N : Nat → Int32} {F : Nat → Nat → Int32} {q p : Nat} (hq : q < 27) (hp : p < 27) {i j n : Int32} (hl : (N p).toInt ≤ px_lim p) (hl2 : (N q).toInt ≤ px_lim q) (c1 : ¬ (i < 0 ∨ n < 0 ∨ N p < n ∨ N p - n < i)) (c2 : ¬ (j < 0 ∨ n < 0 ∨ N q < n ∨ N q - n < j)) : px_PM 2 12 [.ref (px_O q), .ref (px_O p), .int i, .int j, .int n] (px_CH Z N F, []) (fun r h' => r = none ∧ h' = (px_CH Z N (va_up F q (va_cpy (F p) (F q) i.toNatClampNeg j.toNatClampNeg n.toNatClampNeg)), [])) := by
  have h := nb_take (Z := Z) (N := N) (F := F) hq hp i j n hl hl2
  rw [if_neg (fun q => q.elim c1 c2)] at h
  exact h
def s_sheet (Z N : Nat → Int32) (F : Nat → Nat → Int32) (k : Nat) (bits : Int32) (n : Int32) : Int32 × (Nat → Int32) × (Nat → Int32) × (Nat → Nat → Int32) := (if bits = 0 then (if bits = 0 then (if bits = 0 then (1, (upd Z (2 + k) bits), (upd N (19 + k) (Int32.ofNat (px_fz n (px_lim (19 + k))))), (va_up F (19 + k) (px_zf (F (19 + k)) 0 (px_fz n (px_lim (19 + k)))))) else (if n ≤ 24 then (1, (upd Z (2 + k) bits), (upd N (19 + k) (Int32.ofNat (px_fz n (px_lim (19 + k))))), (va_up F (19 + k) (px_zf (F (19 + k)) 0 (px_fz n (px_lim (19 + k)))))) else ((-1000000000 - 1), Z, N, F))) else (if 0 ≤ n then (if bits = 0 then (1, (upd Z (2 + k) bits), (upd N (19 + k) (Int32.ofNat (px_fz n (px_lim (19 + k))))), (va_up F (19 + k) (px_zf (F (19 + k)) 0 (px_fz n (px_lim (19 + k)))))) else (if n ≤ 24 then (1, (upd Z (2 + k) bits), (upd N (19 + k) (Int32.ofNat (px_fz n (px_lim (19 + k))))), (va_up F (19 + k) (px_zf (F (19 + k)) 0 (px_fz n (px_lim (19 + k)))))) else ((-1000000000 - 1), Z, N, F))) else ((-1000000000 - 3), Z, N, F))) else (if bits = 8 then (if bits = 0 then (if bits = 0 then (1, (upd Z (2 + k) bits), (upd N (19 + k) (Int32.ofNat (px_fz n (px_lim (19 + k))))), (va_up F (19 + k) (px_zf (F (19 + k)) 0 (px_fz n (px_lim (19 + k)))))) else (if n ≤ 24 then (1, (upd Z (2 + k) bits), (upd N (19 + k) (Int32.ofNat (px_fz n (px_lim (19 + k))))), (va_up F (19 + k) (px_zf (F (19 + k)) 0 (px_fz n (px_lim (19 + k)))))) else ((-1000000000 - 1), Z, N, F))) else (if 0 ≤ n then (if bits = 0 then (1, (upd Z (2 + k) bits), (upd N (19 + k) (Int32.ofNat (px_fz n (px_lim (19 + k))))), (va_up F (19 + k) (px_zf (F (19 + k)) 0 (px_fz n (px_lim (19 + k)))))) else (if n ≤ 24 then (1, (upd Z (2 + k) bits), (upd N (19 + k) (Int32.ofNat (px_fz n (px_lim (19 + k))))), (va_up F (19 + k) (px_zf (F (19 + k)) 0 (px_fz n (px_lim (19 + k)))))) else ((-1000000000 - 1), Z, N, F))) else ((-1000000000 - 3), Z, N, F))) else (if bits = 16 then (if bits = 0 then (if bits = 0 then (1, (upd Z (2 + k) bits), (upd N (19 + k) (Int32.ofNat (px_fz n (px_lim (19 + k))))), (va_up F (19 + k) (px_zf (F (19 + k)) 0 (px_fz n (px_lim (19 + k)))))) else (if n ≤ 24 then (1, (upd Z (2 + k) bits), (upd N (19 + k) (Int32.ofNat (px_fz n (px_lim (19 + k))))), (va_up F (19 + k) (px_zf (F (19 + k)) 0 (px_fz n (px_lim (19 + k)))))) else ((-1000000000 - 1), Z, N, F))) else (if 0 ≤ n then (if bits = 0 then (1, (upd Z (2 + k) bits), (upd N (19 + k) (Int32.ofNat (px_fz n (px_lim (19 + k))))), (va_up F (19 + k) (px_zf (F (19 + k)) 0 (px_fz n (px_lim (19 + k)))))) else (if n ≤ 24 then (1, (upd Z (2 + k) bits), (upd N (19 + k) (Int32.ofNat (px_fz n (px_lim (19 + k))))), (va_up F (19 + k) (px_zf (F (19 + k)) 0 (px_fz n (px_lim (19 + k)))))) else ((-1000000000 - 1), Z, N, F))) else ((-1000000000 - 3), Z, N, F))) else (if bits = 32 then (if bits = 0 then (if bits = 0 then (1, (upd Z (2 + k) bits), (upd N (19 + k) (Int32.ofNat (px_fz n (px_lim (19 + k))))), (va_up F (19 + k) (px_zf (F (19 + k)) 0 (px_fz n (px_lim (19 + k)))))) else (if n ≤ 24 then (1, (upd Z (2 + k) bits), (upd N (19 + k) (Int32.ofNat (px_fz n (px_lim (19 + k))))), (va_up F (19 + k) (px_zf (F (19 + k)) 0 (px_fz n (px_lim (19 + k)))))) else ((-1000000000 - 1), Z, N, F))) else (if 0 ≤ n then (if bits = 0 then (1, (upd Z (2 + k) bits), (upd N (19 + k) (Int32.ofNat (px_fz n (px_lim (19 + k))))), (va_up F (19 + k) (px_zf (F (19 + k)) 0 (px_fz n (px_lim (19 + k)))))) else (if n ≤ 24 then (1, (upd Z (2 + k) bits), (upd N (19 + k) (Int32.ofNat (px_fz n (px_lim (19 + k))))), (va_up F (19 + k) (px_zf (F (19 + k)) 0 (px_fz n (px_lim (19 + k)))))) else ((-1000000000 - 1), Z, N, F))) else ((-1000000000 - 3), Z, N, F))) else ((-1000000000 - 1), Z, N, F)))))
theorem kc_sheet {Z N : Nat → Int32} {F : Nat → Nat → Int32} (hw : px_cw N) (k : Nat) (hk : k < 4) (bits : Int32) (n : Int32) : px_PM 3 75 [.ref 0, .int (nI k), .int bits, .int n] (px_CH Z N F, []) (fun r h' => r = some (.int (s_sheet Z N F k bits n).1) ∧ ∃ Z' N' F', px_sc (s_sheet Z N F k bits n).2.1 (s_sheet Z N F k bits n).2.2.1 (s_sheet Z N F k bits n).2.2.2 Z' N' F' ∧ h' = (px_CH Z' N' F', [])) := by
  refine px_PM.start (nL := 5) (code := pc_75) rfl rfl ?_
  refine px_PW.steps kt_75.2 2 rfl ?_
  refine px_PW.callV kt_75.2 rfl rfl rfl rfl (cc_sheetAt k hk) (by decide) (fun v h1 q => ?_)
  obtain ⟨rfl, rfl⟩ := q
  refine px_PW.steps kt_75.2 5 rfl ?_
  refine px_PW.br (fun c0 => ?_) (fun c0 => ?_)
  · have c0 : bits = 0 := of_decide_eq_true c0
    refine px_PW.steps kt_75.2 2 rfl ?_
    refine px_PW.br (fun c1 => ?_) (fun c1 => ?_)
    · have c1 : bits = 0 := of_decide_eq_true c1
      refine px_PW.steps kt_75.2 2 rfl ?_
      refine px_PW.br (fun c2 => ?_) (fun c2 => ?_)
      · have c2 : bits = 0 := of_decide_eq_true c2
        refine px_PW.steps kt_75.2 2 rfl ?_
        refine px_op_sh kt_75.2 hk rfl ?_
        refine px_PW.steps kt_75.2 1 rfl ?_
        refine px_PW.getf kt_75.2 rfl (ch_sh hk) rfl ?_
        refine px_PW.steps kt_75.2 1 rfl ?_
        refine px_PW.callV kt_75.2 rfl rfl (ch_isO (by omega)) rfl (nb_fill (q := (19 + k)) (by omega) _) (by decide) (fun v h1 q => ?_)
        obtain ⟨rfl, rfl⟩ := q
        refine px_PW.steps kt_75.2 1 rfl ?_
        refine px_PW.ret kt_75.2 rfl rfl ?_
        have E : s_sheet Z N F k bits n = (1, (upd Z (2 + k) bits), (upd N (19 + k) (Int32.ofNat (px_fz n (px_lim (19 + k))))), (va_up F (19 + k) (px_zf (F (19 + k)) 0 (px_fz n (px_lim (19 + k)))))) := (if_pos c0).trans ((if_pos c1).trans (if_pos c2))
        rw [E]
        exact ⟨rfl, _, _, _, px_sc.rf, rfl⟩
      · have c2 : ¬ (bits = 0) := of_decide_eq_false c2
        refine px_PW.steps kt_75.2 3 rfl ?_
        refine px_PW.br (fun c3 => ?_) (fun c3 => ?_)
        · have c3 : n ≤ 24 := of_decide_eq_true c3
          refine px_PW.steps kt_75.2 2 rfl ?_
          refine px_op_sh kt_75.2 hk rfl ?_
          refine px_PW.steps kt_75.2 1 rfl ?_
          refine px_PW.getf kt_75.2 rfl (ch_sh hk) rfl ?_
          refine px_PW.steps kt_75.2 1 rfl ?_
          refine px_PW.callV kt_75.2 rfl rfl (ch_isO (by omega)) rfl (nb_fill (q := (19 + k)) (by omega) _) (by decide) (fun v h1 q => ?_)
          obtain ⟨rfl, rfl⟩ := q
          refine px_PW.steps kt_75.2 1 rfl ?_
          refine px_PW.ret kt_75.2 rfl rfl ?_
          have E : s_sheet Z N F k bits n = (1, (upd Z (2 + k) bits), (upd N (19 + k) (Int32.ofNat (px_fz n (px_lim (19 + k))))), (va_up F (19 + k) (px_zf (F (19 + k)) 0 (px_fz n (px_lim (19 + k)))))) := (if_pos c0).trans ((if_pos c1).trans ((if_neg c2).trans (if_pos c3)))
          rw [E]
          exact ⟨rfl, _, _, _, px_sc.rf, rfl⟩
        · have c3 : ¬ (n ≤ 24) := of_decide_eq_false c3
          refine px_PW.steps kt_75.2 2 rfl ?_
          refine px_PW.callV kt_75.2 rfl rfl rfl rfl (cc_error hw.2.2.1 1 (by decide)) (by decide) (fun v h1 q => ?_)
          obtain ⟨rfl, rfl⟩ := q
          refine px_PW.ret kt_75.2 rfl rfl ?_
          have E : s_sheet Z N F k bits n = ((-1000000000 - 1), Z, N, F) := (if_pos c0).trans ((if_pos c1).trans ((if_neg c2).trans (if_neg c3)))
          rw [E]
          exact ⟨rfl, _, _, _, px_sc.err, rfl⟩
    · have c1 : ¬ (bits = 0) := of_decide_eq_false c1
      refine px_PW.steps kt_75.2 2 rfl ?_
      refine px_PW.br (fun c4 => ?_) (fun c4 => ?_)
      · have c4 : 0 ≤ n := of_decide_eq_true c4
        refine px_PW.steps kt_75.2 2 rfl ?_
        refine px_PW.br (fun c5 => ?_) (fun c5 => ?_)
        · have c5 : bits = 0 := of_decide_eq_true c5
          refine px_PW.steps kt_75.2 2 rfl ?_
          refine px_op_sh kt_75.2 hk rfl ?_
          refine px_PW.steps kt_75.2 1 rfl ?_
          refine px_PW.getf kt_75.2 rfl (ch_sh hk) rfl ?_
          refine px_PW.steps kt_75.2 1 rfl ?_
          refine px_PW.callV kt_75.2 rfl rfl (ch_isO (by omega)) rfl (nb_fill (q := (19 + k)) (by omega) _) (by decide) (fun v h1 q => ?_)
          obtain ⟨rfl, rfl⟩ := q
          refine px_PW.steps kt_75.2 1 rfl ?_
          refine px_PW.ret kt_75.2 rfl rfl ?_
          have E : s_sheet Z N F k bits n = (1, (upd Z (2 + k) bits), (upd N (19 + k) (Int32.ofNat (px_fz n (px_lim (19 + k))))), (va_up F (19 + k) (px_zf (F (19 + k)) 0 (px_fz n (px_lim (19 + k)))))) := (if_pos c0).trans ((if_neg c1).trans ((if_pos c4).trans (if_pos c5)))
          rw [E]
          exact ⟨rfl, _, _, _, px_sc.rf, rfl⟩
        · have c5 : ¬ (bits = 0) := of_decide_eq_false c5
          refine px_PW.steps kt_75.2 3 rfl ?_
          refine px_PW.br (fun c6 => ?_) (fun c6 => ?_)
          · have c6 : n ≤ 24 := of_decide_eq_true c6
            refine px_PW.steps kt_75.2 2 rfl ?_
            refine px_op_sh kt_75.2 hk rfl ?_
            refine px_PW.steps kt_75.2 1 rfl ?_
            refine px_PW.getf kt_75.2 rfl (ch_sh hk) rfl ?_
            refine px_PW.steps kt_75.2 1 rfl ?_
            refine px_PW.callV kt_75.2 rfl rfl (ch_isO (by omega)) rfl (nb_fill (q := (19 + k)) (by omega) _) (by decide) (fun v h1 q => ?_)
            obtain ⟨rfl, rfl⟩ := q
            refine px_PW.steps kt_75.2 1 rfl ?_
            refine px_PW.ret kt_75.2 rfl rfl ?_
            have E : s_sheet Z N F k bits n = (1, (upd Z (2 + k) bits), (upd N (19 + k) (Int32.ofNat (px_fz n (px_lim (19 + k))))), (va_up F (19 + k) (px_zf (F (19 + k)) 0 (px_fz n (px_lim (19 + k)))))) := (if_pos c0).trans ((if_neg c1).trans ((if_pos c4).trans ((if_neg c5).trans (if_pos c6))))
            rw [E]
            exact ⟨rfl, _, _, _, px_sc.rf, rfl⟩
          · have c6 : ¬ (n ≤ 24) := of_decide_eq_false c6
            refine px_PW.steps kt_75.2 2 rfl ?_
            refine px_PW.callV kt_75.2 rfl rfl rfl rfl (cc_error hw.2.2.1 1 (by decide)) (by decide) (fun v h1 q => ?_)
            obtain ⟨rfl, rfl⟩ := q
            refine px_PW.ret kt_75.2 rfl rfl ?_
            have E : s_sheet Z N F k bits n = ((-1000000000 - 1), Z, N, F) := (if_pos c0).trans ((if_neg c1).trans ((if_pos c4).trans ((if_neg c5).trans (if_neg c6))))
            rw [E]
            exact ⟨rfl, _, _, _, px_sc.err, rfl⟩
      · have c4 : ¬ (0 ≤ n) := of_decide_eq_false c4
        refine px_PW.steps kt_75.2 2 rfl ?_
        refine px_PW.callV kt_75.2 rfl rfl rfl rfl (cc_error hw.2.2.1 3 (by decide)) (by decide) (fun v h1 q => ?_)
        obtain ⟨rfl, rfl⟩ := q
        refine px_PW.ret kt_75.2 rfl rfl ?_
        have E : s_sheet Z N F k bits n = ((-1000000000 - 3), Z, N, F) := (if_pos c0).trans ((if_neg c1).trans (if_neg c4))
        rw [E]
        exact ⟨rfl, _, _, _, px_sc.err, rfl⟩
  · have c0 : ¬ (bits = 0) := of_decide_eq_false c0
    refine px_PW.steps kt_75.2 3 rfl ?_
    refine px_PW.br (fun c7 => ?_) (fun c7 => ?_)
    · have c7 : bits = 8 := of_decide_eq_true c7
      refine px_PW.steps kt_75.2 2 rfl ?_
      refine px_PW.br (fun c8 => ?_) (fun c8 => ?_)
      · have c8 : bits = 0 := of_decide_eq_true c8
        refine px_PW.steps kt_75.2 2 rfl ?_
        refine px_PW.br (fun c9 => ?_) (fun c9 => ?_)
        · have c9 : bits = 0 := of_decide_eq_true c9
          refine px_PW.steps kt_75.2 2 rfl ?_
          refine px_op_sh kt_75.2 hk rfl ?_
          refine px_PW.steps kt_75.2 1 rfl ?_
          refine px_PW.getf kt_75.2 rfl (ch_sh hk) rfl ?_
          refine px_PW.steps kt_75.2 1 rfl ?_
          refine px_PW.callV kt_75.2 rfl rfl (ch_isO (by omega)) rfl (nb_fill (q := (19 + k)) (by omega) _) (by decide) (fun v h1 q => ?_)
          obtain ⟨rfl, rfl⟩ := q
          refine px_PW.steps kt_75.2 1 rfl ?_
          refine px_PW.ret kt_75.2 rfl rfl ?_
          have E : s_sheet Z N F k bits n = (1, (upd Z (2 + k) bits), (upd N (19 + k) (Int32.ofNat (px_fz n (px_lim (19 + k))))), (va_up F (19 + k) (px_zf (F (19 + k)) 0 (px_fz n (px_lim (19 + k)))))) := (if_neg c0).trans ((if_pos c7).trans ((if_pos c8).trans (if_pos c9)))
          rw [E]
          exact ⟨rfl, _, _, _, px_sc.rf, rfl⟩
        · have c9 : ¬ (bits = 0) := of_decide_eq_false c9
          refine px_PW.steps kt_75.2 3 rfl ?_
          refine px_PW.br (fun c10 => ?_) (fun c10 => ?_)
          · have c10 : n ≤ 24 := of_decide_eq_true c10
            refine px_PW.steps kt_75.2 2 rfl ?_
            refine px_op_sh kt_75.2 hk rfl ?_
            refine px_PW.steps kt_75.2 1 rfl ?_
            refine px_PW.getf kt_75.2 rfl (ch_sh hk) rfl ?_
            refine px_PW.steps kt_75.2 1 rfl ?_
            refine px_PW.callV kt_75.2 rfl rfl (ch_isO (by omega)) rfl (nb_fill (q := (19 + k)) (by omega) _) (by decide) (fun v h1 q => ?_)
            obtain ⟨rfl, rfl⟩ := q
            refine px_PW.steps kt_75.2 1 rfl ?_
            refine px_PW.ret kt_75.2 rfl rfl ?_
            have E : s_sheet Z N F k bits n = (1, (upd Z (2 + k) bits), (upd N (19 + k) (Int32.ofNat (px_fz n (px_lim (19 + k))))), (va_up F (19 + k) (px_zf (F (19 + k)) 0 (px_fz n (px_lim (19 + k)))))) := (if_neg c0).trans ((if_pos c7).trans ((if_pos c8).trans ((if_neg c9).trans (if_pos c10))))
            rw [E]
            exact ⟨rfl, _, _, _, px_sc.rf, rfl⟩
          · have c10 : ¬ (n ≤ 24) := of_decide_eq_false c10
            refine px_PW.steps kt_75.2 2 rfl ?_
            refine px_PW.callV kt_75.2 rfl rfl rfl rfl (cc_error hw.2.2.1 1 (by decide)) (by decide) (fun v h1 q => ?_)
            obtain ⟨rfl, rfl⟩ := q
            refine px_PW.ret kt_75.2 rfl rfl ?_
            have E : s_sheet Z N F k bits n = ((-1000000000 - 1), Z, N, F) := (if_neg c0).trans ((if_pos c7).trans ((if_pos c8).trans ((if_neg c9).trans (if_neg c10))))
            rw [E]
            exact ⟨rfl, _, _, _, px_sc.err, rfl⟩
      · have c8 : ¬ (bits = 0) := of_decide_eq_false c8
        refine px_PW.steps kt_75.2 2 rfl ?_
        refine px_PW.br (fun c11 => ?_) (fun c11 => ?_)
        · have c11 : 0 ≤ n := of_decide_eq_true c11
          refine px_PW.steps kt_75.2 2 rfl ?_
          refine px_PW.br (fun c12 => ?_) (fun c12 => ?_)
          · have c12 : bits = 0 := of_decide_eq_true c12
            refine px_PW.steps kt_75.2 2 rfl ?_
            refine px_op_sh kt_75.2 hk rfl ?_
            refine px_PW.steps kt_75.2 1 rfl ?_
            refine px_PW.getf kt_75.2 rfl (ch_sh hk) rfl ?_
            refine px_PW.steps kt_75.2 1 rfl ?_
            refine px_PW.callV kt_75.2 rfl rfl (ch_isO (by omega)) rfl (nb_fill (q := (19 + k)) (by omega) _) (by decide) (fun v h1 q => ?_)
            obtain ⟨rfl, rfl⟩ := q
            refine px_PW.steps kt_75.2 1 rfl ?_
            refine px_PW.ret kt_75.2 rfl rfl ?_
            have E : s_sheet Z N F k bits n = (1, (upd Z (2 + k) bits), (upd N (19 + k) (Int32.ofNat (px_fz n (px_lim (19 + k))))), (va_up F (19 + k) (px_zf (F (19 + k)) 0 (px_fz n (px_lim (19 + k)))))) := (if_neg c0).trans ((if_pos c7).trans ((if_neg c8).trans ((if_pos c11).trans (if_pos c12))))
            rw [E]
            exact ⟨rfl, _, _, _, px_sc.rf, rfl⟩
          · have c12 : ¬ (bits = 0) := of_decide_eq_false c12
            refine px_PW.steps kt_75.2 3 rfl ?_
            refine px_PW.br (fun c13 => ?_) (fun c13 => ?_)
            · have c13 : n ≤ 24 := of_decide_eq_true c13
              refine px_PW.steps kt_75.2 2 rfl ?_
              refine px_op_sh kt_75.2 hk rfl ?_
              refine px_PW.steps kt_75.2 1 rfl ?_
              refine px_PW.getf kt_75.2 rfl (ch_sh hk) rfl ?_
              refine px_PW.steps kt_75.2 1 rfl ?_
              refine px_PW.callV kt_75.2 rfl rfl (ch_isO (by omega)) rfl (nb_fill (q := (19 + k)) (by omega) _) (by decide) (fun v h1 q => ?_)
              obtain ⟨rfl, rfl⟩ := q
              refine px_PW.steps kt_75.2 1 rfl ?_
              refine px_PW.ret kt_75.2 rfl rfl ?_
              have E : s_sheet Z N F k bits n = (1, (upd Z (2 + k) bits), (upd N (19 + k) (Int32.ofNat (px_fz n (px_lim (19 + k))))), (va_up F (19 + k) (px_zf (F (19 + k)) 0 (px_fz n (px_lim (19 + k)))))) := (if_neg c0).trans ((if_pos c7).trans ((if_neg c8).trans ((if_pos c11).trans ((if_neg c12).trans (if_pos c13)))))
              rw [E]
              exact ⟨rfl, _, _, _, px_sc.rf, rfl⟩
            · have c13 : ¬ (n ≤ 24) := of_decide_eq_false c13
              refine px_PW.steps kt_75.2 2 rfl ?_
              refine px_PW.callV kt_75.2 rfl rfl rfl rfl (cc_error hw.2.2.1 1 (by decide)) (by decide) (fun v h1 q => ?_)
              obtain ⟨rfl, rfl⟩ := q
              refine px_PW.ret kt_75.2 rfl rfl ?_
              have E : s_sheet Z N F k bits n = ((-1000000000 - 1), Z, N, F) := (if_neg c0).trans ((if_pos c7).trans ((if_neg c8).trans ((if_pos c11).trans ((if_neg c12).trans (if_neg c13)))))
              rw [E]
              exact ⟨rfl, _, _, _, px_sc.err, rfl⟩
        · have c11 : ¬ (0 ≤ n) := of_decide_eq_false c11
          refine px_PW.steps kt_75.2 2 rfl ?_
          refine px_PW.callV kt_75.2 rfl rfl rfl rfl (cc_error hw.2.2.1 3 (by decide)) (by decide) (fun v h1 q => ?_)
          obtain ⟨rfl, rfl⟩ := q
          refine px_PW.ret kt_75.2 rfl rfl ?_
          have E : s_sheet Z N F k bits n = ((-1000000000 - 3), Z, N, F) := (if_neg c0).trans ((if_pos c7).trans ((if_neg c8).trans (if_neg c11)))
          rw [E]
          exact ⟨rfl, _, _, _, px_sc.err, rfl⟩
    · have c7 : ¬ (bits = 8) := of_decide_eq_false c7
      refine px_PW.steps kt_75.2 3 rfl ?_
      refine px_PW.br (fun c14 => ?_) (fun c14 => ?_)
      · have c14 : bits = 16 := of_decide_eq_true c14
        refine px_PW.steps kt_75.2 2 rfl ?_
        refine px_PW.br (fun c15 => ?_) (fun c15 => ?_)
        · have c15 : bits = 0 := of_decide_eq_true c15
          refine px_PW.steps kt_75.2 2 rfl ?_
          refine px_PW.br (fun c16 => ?_) (fun c16 => ?_)
          · have c16 : bits = 0 := of_decide_eq_true c16
            refine px_PW.steps kt_75.2 2 rfl ?_
            refine px_op_sh kt_75.2 hk rfl ?_
            refine px_PW.steps kt_75.2 1 rfl ?_
            refine px_PW.getf kt_75.2 rfl (ch_sh hk) rfl ?_
            refine px_PW.steps kt_75.2 1 rfl ?_
            refine px_PW.callV kt_75.2 rfl rfl (ch_isO (by omega)) rfl (nb_fill (q := (19 + k)) (by omega) _) (by decide) (fun v h1 q => ?_)
            obtain ⟨rfl, rfl⟩ := q
            refine px_PW.steps kt_75.2 1 rfl ?_
            refine px_PW.ret kt_75.2 rfl rfl ?_
            have E : s_sheet Z N F k bits n = (1, (upd Z (2 + k) bits), (upd N (19 + k) (Int32.ofNat (px_fz n (px_lim (19 + k))))), (va_up F (19 + k) (px_zf (F (19 + k)) 0 (px_fz n (px_lim (19 + k)))))) := (if_neg c0).trans ((if_neg c7).trans ((if_pos c14).trans ((if_pos c15).trans (if_pos c16))))
            rw [E]
            exact ⟨rfl, _, _, _, px_sc.rf, rfl⟩
          · have c16 : ¬ (bits = 0) := of_decide_eq_false c16
            refine px_PW.steps kt_75.2 3 rfl ?_
            refine px_PW.br (fun c17 => ?_) (fun c17 => ?_)
            · have c17 : n ≤ 24 := of_decide_eq_true c17
              refine px_PW.steps kt_75.2 2 rfl ?_
              refine px_op_sh kt_75.2 hk rfl ?_
              refine px_PW.steps kt_75.2 1 rfl ?_
              refine px_PW.getf kt_75.2 rfl (ch_sh hk) rfl ?_
              refine px_PW.steps kt_75.2 1 rfl ?_
              refine px_PW.callV kt_75.2 rfl rfl (ch_isO (by omega)) rfl (nb_fill (q := (19 + k)) (by omega) _) (by decide) (fun v h1 q => ?_)
              obtain ⟨rfl, rfl⟩ := q
              refine px_PW.steps kt_75.2 1 rfl ?_
              refine px_PW.ret kt_75.2 rfl rfl ?_
              have E : s_sheet Z N F k bits n = (1, (upd Z (2 + k) bits), (upd N (19 + k) (Int32.ofNat (px_fz n (px_lim (19 + k))))), (va_up F (19 + k) (px_zf (F (19 + k)) 0 (px_fz n (px_lim (19 + k)))))) := (if_neg c0).trans ((if_neg c7).trans ((if_pos c14).trans ((if_pos c15).trans ((if_neg c16).trans (if_pos c17)))))
              rw [E]
              exact ⟨rfl, _, _, _, px_sc.rf, rfl⟩
            · have c17 : ¬ (n ≤ 24) := of_decide_eq_false c17
              refine px_PW.steps kt_75.2 2 rfl ?_
              refine px_PW.callV kt_75.2 rfl rfl rfl rfl (cc_error hw.2.2.1 1 (by decide)) (by decide) (fun v h1 q => ?_)
              obtain ⟨rfl, rfl⟩ := q
              refine px_PW.ret kt_75.2 rfl rfl ?_
              have E : s_sheet Z N F k bits n = ((-1000000000 - 1), Z, N, F) := (if_neg c0).trans ((if_neg c7).trans ((if_pos c14).trans ((if_pos c15).trans ((if_neg c16).trans (if_neg c17)))))
              rw [E]
              exact ⟨rfl, _, _, _, px_sc.err, rfl⟩
        · have c15 : ¬ (bits = 0) := of_decide_eq_false c15
          refine px_PW.steps kt_75.2 2 rfl ?_
          refine px_PW.br (fun c18 => ?_) (fun c18 => ?_)
          · have c18 : 0 ≤ n := of_decide_eq_true c18
            refine px_PW.steps kt_75.2 2 rfl ?_
            refine px_PW.br (fun c19 => ?_) (fun c19 => ?_)
            · have c19 : bits = 0 := of_decide_eq_true c19
              refine px_PW.steps kt_75.2 2 rfl ?_
              refine px_op_sh kt_75.2 hk rfl ?_
              refine px_PW.steps kt_75.2 1 rfl ?_
              refine px_PW.getf kt_75.2 rfl (ch_sh hk) rfl ?_
              refine px_PW.steps kt_75.2 1 rfl ?_
              refine px_PW.callV kt_75.2 rfl rfl (ch_isO (by omega)) rfl (nb_fill (q := (19 + k)) (by omega) _) (by decide) (fun v h1 q => ?_)
              obtain ⟨rfl, rfl⟩ := q
              refine px_PW.steps kt_75.2 1 rfl ?_
              refine px_PW.ret kt_75.2 rfl rfl ?_
              have E : s_sheet Z N F k bits n = (1, (upd Z (2 + k) bits), (upd N (19 + k) (Int32.ofNat (px_fz n (px_lim (19 + k))))), (va_up F (19 + k) (px_zf (F (19 + k)) 0 (px_fz n (px_lim (19 + k)))))) := (if_neg c0).trans ((if_neg c7).trans ((if_pos c14).trans ((if_neg c15).trans ((if_pos c18).trans (if_pos c19)))))
              rw [E]
              exact ⟨rfl, _, _, _, px_sc.rf, rfl⟩
            · have c19 : ¬ (bits = 0) := of_decide_eq_false c19
              refine px_PW.steps kt_75.2 3 rfl ?_
              refine px_PW.br (fun c20 => ?_) (fun c20 => ?_)
              · have c20 : n ≤ 24 := of_decide_eq_true c20
                refine px_PW.steps kt_75.2 2 rfl ?_
                refine px_op_sh kt_75.2 hk rfl ?_
                refine px_PW.steps kt_75.2 1 rfl ?_
                refine px_PW.getf kt_75.2 rfl (ch_sh hk) rfl ?_
                refine px_PW.steps kt_75.2 1 rfl ?_
                refine px_PW.callV kt_75.2 rfl rfl (ch_isO (by omega)) rfl (nb_fill (q := (19 + k)) (by omega) _) (by decide) (fun v h1 q => ?_)
                obtain ⟨rfl, rfl⟩ := q
                refine px_PW.steps kt_75.2 1 rfl ?_
                refine px_PW.ret kt_75.2 rfl rfl ?_
                have E : s_sheet Z N F k bits n = (1, (upd Z (2 + k) bits), (upd N (19 + k) (Int32.ofNat (px_fz n (px_lim (19 + k))))), (va_up F (19 + k) (px_zf (F (19 + k)) 0 (px_fz n (px_lim (19 + k)))))) := (if_neg c0).trans ((if_neg c7).trans ((if_pos c14).trans ((if_neg c15).trans ((if_pos c18).trans ((if_neg c19).trans (if_pos c20))))))
                rw [E]
                exact ⟨rfl, _, _, _, px_sc.rf, rfl⟩
              · have c20 : ¬ (n ≤ 24) := of_decide_eq_false c20
                refine px_PW.steps kt_75.2 2 rfl ?_
                refine px_PW.callV kt_75.2 rfl rfl rfl rfl (cc_error hw.2.2.1 1 (by decide)) (by decide) (fun v h1 q => ?_)
                obtain ⟨rfl, rfl⟩ := q
                refine px_PW.ret kt_75.2 rfl rfl ?_
                have E : s_sheet Z N F k bits n = ((-1000000000 - 1), Z, N, F) := (if_neg c0).trans ((if_neg c7).trans ((if_pos c14).trans ((if_neg c15).trans ((if_pos c18).trans ((if_neg c19).trans (if_neg c20))))))
                rw [E]
                exact ⟨rfl, _, _, _, px_sc.err, rfl⟩
          · have c18 : ¬ (0 ≤ n) := of_decide_eq_false c18
            refine px_PW.steps kt_75.2 2 rfl ?_
            refine px_PW.callV kt_75.2 rfl rfl rfl rfl (cc_error hw.2.2.1 3 (by decide)) (by decide) (fun v h1 q => ?_)
            obtain ⟨rfl, rfl⟩ := q
            refine px_PW.ret kt_75.2 rfl rfl ?_
            have E : s_sheet Z N F k bits n = ((-1000000000 - 3), Z, N, F) := (if_neg c0).trans ((if_neg c7).trans ((if_pos c14).trans ((if_neg c15).trans (if_neg c18))))
            rw [E]
            exact ⟨rfl, _, _, _, px_sc.err, rfl⟩
      · have c14 : ¬ (bits = 16) := of_decide_eq_false c14
        refine px_PW.steps kt_75.2 3 rfl ?_
        refine px_PW.br (fun c21 => ?_) (fun c21 => ?_)
        · have c21 : bits = 32 := of_decide_eq_true c21
          refine px_PW.steps kt_75.2 2 rfl ?_
          refine px_PW.br (fun c22 => ?_) (fun c22 => ?_)
          · have c22 : bits = 0 := of_decide_eq_true c22
            refine px_PW.steps kt_75.2 2 rfl ?_
            refine px_PW.br (fun c23 => ?_) (fun c23 => ?_)
            · have c23 : bits = 0 := of_decide_eq_true c23
              refine px_PW.steps kt_75.2 2 rfl ?_
              refine px_op_sh kt_75.2 hk rfl ?_
              refine px_PW.steps kt_75.2 1 rfl ?_
              refine px_PW.getf kt_75.2 rfl (ch_sh hk) rfl ?_
              refine px_PW.steps kt_75.2 1 rfl ?_
              refine px_PW.callV kt_75.2 rfl rfl (ch_isO (by omega)) rfl (nb_fill (q := (19 + k)) (by omega) _) (by decide) (fun v h1 q => ?_)
              obtain ⟨rfl, rfl⟩ := q
              refine px_PW.steps kt_75.2 1 rfl ?_
              refine px_PW.ret kt_75.2 rfl rfl ?_
              have E : s_sheet Z N F k bits n = (1, (upd Z (2 + k) bits), (upd N (19 + k) (Int32.ofNat (px_fz n (px_lim (19 + k))))), (va_up F (19 + k) (px_zf (F (19 + k)) 0 (px_fz n (px_lim (19 + k)))))) := (if_neg c0).trans ((if_neg c7).trans ((if_neg c14).trans ((if_pos c21).trans ((if_pos c22).trans (if_pos c23)))))
              rw [E]
              exact ⟨rfl, _, _, _, px_sc.rf, rfl⟩
            · have c23 : ¬ (bits = 0) := of_decide_eq_false c23
              refine px_PW.steps kt_75.2 3 rfl ?_
              refine px_PW.br (fun c24 => ?_) (fun c24 => ?_)
              · have c24 : n ≤ 24 := of_decide_eq_true c24
                refine px_PW.steps kt_75.2 2 rfl ?_
                refine px_op_sh kt_75.2 hk rfl ?_
                refine px_PW.steps kt_75.2 1 rfl ?_
                refine px_PW.getf kt_75.2 rfl (ch_sh hk) rfl ?_
                refine px_PW.steps kt_75.2 1 rfl ?_
                refine px_PW.callV kt_75.2 rfl rfl (ch_isO (by omega)) rfl (nb_fill (q := (19 + k)) (by omega) _) (by decide) (fun v h1 q => ?_)
                obtain ⟨rfl, rfl⟩ := q
                refine px_PW.steps kt_75.2 1 rfl ?_
                refine px_PW.ret kt_75.2 rfl rfl ?_
                have E : s_sheet Z N F k bits n = (1, (upd Z (2 + k) bits), (upd N (19 + k) (Int32.ofNat (px_fz n (px_lim (19 + k))))), (va_up F (19 + k) (px_zf (F (19 + k)) 0 (px_fz n (px_lim (19 + k)))))) := (if_neg c0).trans ((if_neg c7).trans ((if_neg c14).trans ((if_pos c21).trans ((if_pos c22).trans ((if_neg c23).trans (if_pos c24))))))
                rw [E]
                exact ⟨rfl, _, _, _, px_sc.rf, rfl⟩
              · have c24 : ¬ (n ≤ 24) := of_decide_eq_false c24
                refine px_PW.steps kt_75.2 2 rfl ?_
                refine px_PW.callV kt_75.2 rfl rfl rfl rfl (cc_error hw.2.2.1 1 (by decide)) (by decide) (fun v h1 q => ?_)
                obtain ⟨rfl, rfl⟩ := q
                refine px_PW.ret kt_75.2 rfl rfl ?_
                have E : s_sheet Z N F k bits n = ((-1000000000 - 1), Z, N, F) := (if_neg c0).trans ((if_neg c7).trans ((if_neg c14).trans ((if_pos c21).trans ((if_pos c22).trans ((if_neg c23).trans (if_neg c24))))))
                rw [E]
                exact ⟨rfl, _, _, _, px_sc.err, rfl⟩
          · have c22 : ¬ (bits = 0) := of_decide_eq_false c22
            refine px_PW.steps kt_75.2 2 rfl ?_
            refine px_PW.br (fun c25 => ?_) (fun c25 => ?_)
            · have c25 : 0 ≤ n := of_decide_eq_true c25
              refine px_PW.steps kt_75.2 2 rfl ?_
              refine px_PW.br (fun c26 => ?_) (fun c26 => ?_)
              · have c26 : bits = 0 := of_decide_eq_true c26
                refine px_PW.steps kt_75.2 2 rfl ?_
                refine px_op_sh kt_75.2 hk rfl ?_
                refine px_PW.steps kt_75.2 1 rfl ?_
                refine px_PW.getf kt_75.2 rfl (ch_sh hk) rfl ?_
                refine px_PW.steps kt_75.2 1 rfl ?_
                refine px_PW.callV kt_75.2 rfl rfl (ch_isO (by omega)) rfl (nb_fill (q := (19 + k)) (by omega) _) (by decide) (fun v h1 q => ?_)
                obtain ⟨rfl, rfl⟩ := q
                refine px_PW.steps kt_75.2 1 rfl ?_
                refine px_PW.ret kt_75.2 rfl rfl ?_
                have E : s_sheet Z N F k bits n = (1, (upd Z (2 + k) bits), (upd N (19 + k) (Int32.ofNat (px_fz n (px_lim (19 + k))))), (va_up F (19 + k) (px_zf (F (19 + k)) 0 (px_fz n (px_lim (19 + k)))))) := (if_neg c0).trans ((if_neg c7).trans ((if_neg c14).trans ((if_pos c21).trans ((if_neg c22).trans ((if_pos c25).trans (if_pos c26))))))
                rw [E]
                exact ⟨rfl, _, _, _, px_sc.rf, rfl⟩
              · have c26 : ¬ (bits = 0) := of_decide_eq_false c26
                refine px_PW.steps kt_75.2 3 rfl ?_
                refine px_PW.br (fun c27 => ?_) (fun c27 => ?_)
                · have c27 : n ≤ 24 := of_decide_eq_true c27
                  refine px_PW.steps kt_75.2 2 rfl ?_
                  refine px_op_sh kt_75.2 hk rfl ?_
                  refine px_PW.steps kt_75.2 1 rfl ?_
                  refine px_PW.getf kt_75.2 rfl (ch_sh hk) rfl ?_
                  refine px_PW.steps kt_75.2 1 rfl ?_
                  refine px_PW.callV kt_75.2 rfl rfl (ch_isO (by omega)) rfl (nb_fill (q := (19 + k)) (by omega) _) (by decide) (fun v h1 q => ?_)
                  obtain ⟨rfl, rfl⟩ := q
                  refine px_PW.steps kt_75.2 1 rfl ?_
                  refine px_PW.ret kt_75.2 rfl rfl ?_
                  have E : s_sheet Z N F k bits n = (1, (upd Z (2 + k) bits), (upd N (19 + k) (Int32.ofNat (px_fz n (px_lim (19 + k))))), (va_up F (19 + k) (px_zf (F (19 + k)) 0 (px_fz n (px_lim (19 + k)))))) := (if_neg c0).trans ((if_neg c7).trans ((if_neg c14).trans ((if_pos c21).trans ((if_neg c22).trans ((if_pos c25).trans ((if_neg c26).trans (if_pos c27)))))))
                  rw [E]
                  exact ⟨rfl, _, _, _, px_sc.rf, rfl⟩
                · have c27 : ¬ (n ≤ 24) := of_decide_eq_false c27
                  refine px_PW.steps kt_75.2 2 rfl ?_
                  refine px_PW.callV kt_75.2 rfl rfl rfl rfl (cc_error hw.2.2.1 1 (by decide)) (by decide) (fun v h1 q => ?_)
                  obtain ⟨rfl, rfl⟩ := q
                  refine px_PW.ret kt_75.2 rfl rfl ?_
                  have E : s_sheet Z N F k bits n = ((-1000000000 - 1), Z, N, F) := (if_neg c0).trans ((if_neg c7).trans ((if_neg c14).trans ((if_pos c21).trans ((if_neg c22).trans ((if_pos c25).trans ((if_neg c26).trans (if_neg c27)))))))
                  rw [E]
                  exact ⟨rfl, _, _, _, px_sc.err, rfl⟩
            · have c25 : ¬ (0 ≤ n) := of_decide_eq_false c25
              refine px_PW.steps kt_75.2 2 rfl ?_
              refine px_PW.callV kt_75.2 rfl rfl rfl rfl (cc_error hw.2.2.1 3 (by decide)) (by decide) (fun v h1 q => ?_)
              obtain ⟨rfl, rfl⟩ := q
              refine px_PW.ret kt_75.2 rfl rfl ?_
              have E : s_sheet Z N F k bits n = ((-1000000000 - 3), Z, N, F) := (if_neg c0).trans ((if_neg c7).trans ((if_neg c14).trans ((if_pos c21).trans ((if_neg c22).trans (if_neg c25)))))
              rw [E]
              exact ⟨rfl, _, _, _, px_sc.err, rfl⟩
        · have c21 : ¬ (bits = 32) := of_decide_eq_false c21
          refine px_PW.steps kt_75.2 2 rfl ?_
          refine px_PW.callV kt_75.2 rfl rfl rfl rfl (cc_error hw.2.2.1 1 (by decide)) (by decide) (fun v h1 q => ?_)
          obtain ⟨rfl, rfl⟩ := q
          refine px_PW.ret kt_75.2 rfl rfl ?_
          have E : s_sheet Z N F k bits n = ((-1000000000 - 1), Z, N, F) := (if_neg c0).trans ((if_neg c7).trans ((if_neg c14).trans (if_neg c21)))
          rw [E]
          exact ⟨rfl, _, _, _, px_sc.err, rfl⟩
def s_sheetB (Z N : Nat → Int32) (F : Nat → Nat → Int32) (sheet : Int32) (bits : Int32) (n : Int32) : Int32 × (Nat → Int32) × (Nat → Int32) × (Nat → Nat → Int32) := ((-1000000000 - 1), Z, N, F)
theorem kc_sheetB {Z N : Nat → Int32} {F : Nat → Nat → Int32} (hw : px_cw N) (sheet : Int32) (bits : Int32) (n : Int32) (hb : sheet < 0 ∨ 4 ≤ sheet) : px_PM 3 75 [.ref 0, .int sheet, .int bits, .int n] (px_CH Z N F, []) (fun r h' => r = some (.int (s_sheetB Z N F sheet bits n).1) ∧ ∃ Z' N' F', px_sc (s_sheetB Z N F sheet bits n).2.1 (s_sheetB Z N F sheet bits n).2.2.1 (s_sheetB Z N F sheet bits n).2.2.2 Z' N' F' ∧ h' = (px_CH Z' N' F', [])) := by
  refine px_PM.start (nL := 5) (code := pc_75) rfl rfl ?_
  refine px_PW.steps kt_75.2 2 rfl ?_
  refine px_PW.callV kt_75.2 rfl rfl rfl rfl (cc_sheetAtB _ hb) (by decide) (fun v h1 q => ?_)
  obtain ⟨rfl, rfl⟩ := q
  refine px_PW.steps kt_75.2 5 rfl ?_
  refine px_PW.callV kt_75.2 rfl rfl rfl rfl (cc_error hw.2.2.1 1 (by decide)) (by decide) (fun v h1 q => ?_)
  obtain ⟨rfl, rfl⟩ := q
  refine px_PW.ret kt_75.2 rfl rfl ?_
  have E : s_sheetB Z N F sheet bits n = ((-1000000000 - 1), Z, N, F) := rfl
  rw [E]
  exact ⟨rfl, _, _, _, px_sc.err, rfl⟩
def s_put (Z N : Nat → Int32) (F : Nat → Nat → Int32) (k : Nat) (i : Int32) (v : Int32) : Int32 × (Nat → Int32) × (Nat → Int32) × (Nat → Nat → Int32) := (if (Z (2 + k)) = 0 then ((-1000000000 - 2), Z, N, F) else (if i < 0 ∨ (N (19 + k)) ≤ i then ((-1000000000 - 1), Z, N, F) else (1, Z, N, (va_up F (19 + k) (upd (F (19 + k)) (i).toNatClampNeg (s_low (Z (2 + k)) v))))))
theorem kc_put {Z N : Nat → Int32} {F : Nat → Nat → Int32} (hw : px_cw N) (k : Nat) (hk : k < 4) (i : Int32) (v : Int32) : px_PM 3 76 [.ref 0, .int (nI k), .int i, .int v] (px_CH Z N F, []) (fun r h' => r = some (.int (s_put Z N F k i v).1) ∧ ∃ Z' N' F', px_sc (s_put Z N F k i v).2.1 (s_put Z N F k i v).2.2.1 (s_put Z N F k i v).2.2.2 Z' N' F' ∧ h' = (px_CH Z' N' F', [])) := by
  refine px_PM.start (nL := 5) (code := pc_76) rfl rfl ?_
  refine px_PW.steps kt_76.2 2 rfl ?_
  refine px_PW.callV kt_76.2 rfl rfl rfl rfl (cc_sheetAt k hk) (by decide) (fun v h1 q => ?_)
  obtain ⟨rfl, rfl⟩ := q
  refine px_PW.steps kt_76.2 4 rfl ?_
  refine px_PW.callV kt_76.2 rfl rfl (ch_isSh hk) rfl (cc_isMissing hk) (by decide) (fun v h1 q => ?_)
  obtain ⟨rfl, rfl⟩ := q
  refine px_PW.steps kt_76.2 1 rfl ?_
  refine px_PW.br (fun c0 => ?_) (fun c0 => ?_)
  · have c0 : ¬ ((Z (2 + k)) = 0) := px_b1z (of_decide_eq_true c0)
    refine px_PW.steps kt_76.2 1 rfl ?_
    refine px_PW.getf kt_76.2 rfl (ch_sh hk) rfl ?_
    refine px_PW.steps kt_76.2 1 rfl ?_
    refine px_PW.callV kt_76.2 rfl rfl (ch_isO (by omega)) rfl (nb_stands (q := 19 + k) (by omega) _) (by decide) (fun v h1 q => ?_)
    obtain ⟨rfl, rfl⟩ := q
    refine px_PW.steps kt_76.2 1 rfl ?_
    refine px_PW.br (fun c1 => ?_) (fun c1 => ?_)
    · have c1 : ¬ (i < 0 ∨ (N (19 + k)) ≤ i) := px_b0n (of_decide_eq_false (px_nt c1))
      refine px_PW.steps kt_76.2 1 rfl ?_
      refine px_PW.getf kt_76.2 rfl (ch_sh hk) rfl ?_
      refine px_PW.steps kt_76.2 3 rfl ?_
      refine px_PW.callV kt_76.2 rfl rfl (ch_isSh hk) rfl (cc_low hk _) (by decide) (fun v h1 q => ?_)
      obtain ⟨rfl, rfl⟩ := q
      refine px_PW.callV kt_76.2 rfl rfl (ch_isO (by omega)) rfl (nb_setS (q := (19 + k)) (by omega) (hw.lim (by omega)) c1 _) (by decide) (fun v h1 q => ?_)
      obtain ⟨rfl, rfl⟩ := q
      refine px_PW.steps kt_76.2 1 rfl ?_
      refine px_PW.ret kt_76.2 rfl rfl ?_
      have E : s_put Z N F k i v = (1, Z, N, (va_up F (19 + k) (upd (F (19 + k)) (i).toNatClampNeg (s_low (Z (2 + k)) v)))) := (if_neg c0).trans (if_neg c1)
      rw [E]
      exact ⟨rfl, _, _, _, px_sc.rf, rfl⟩
    · have c1 : i < 0 ∨ (N (19 + k)) ≤ i := px_b0z (of_decide_eq_true (px_nf c1))
      refine px_PW.steps kt_76.2 2 rfl ?_
      refine px_PW.callV kt_76.2 rfl rfl rfl rfl (cc_error hw.2.2.1 1 (by decide)) (by decide) (fun v h1 q => ?_)
      obtain ⟨rfl, rfl⟩ := q
      refine px_PW.ret kt_76.2 rfl rfl ?_
      have E : s_put Z N F k i v = ((-1000000000 - 1), Z, N, F) := (if_neg c0).trans (if_pos c1)
      rw [E]
      exact ⟨rfl, _, _, _, px_sc.err, rfl⟩
  · have c0 : (Z (2 + k)) = 0 := px_b1n (of_decide_eq_false c0)
    refine px_PW.steps kt_76.2 2 rfl ?_
    refine px_PW.callV kt_76.2 rfl rfl rfl rfl (cc_error hw.2.2.1 2 (by decide)) (by decide) (fun v h1 q => ?_)
    obtain ⟨rfl, rfl⟩ := q
    refine px_PW.ret kt_76.2 rfl rfl ?_
    have E : s_put Z N F k i v = ((-1000000000 - 2), Z, N, F) := if_pos c0
    rw [E]
    exact ⟨rfl, _, _, _, px_sc.err, rfl⟩
def s_putB (Z N : Nat → Int32) (F : Nat → Nat → Int32) (sheet : Int32) (i : Int32) (v : Int32) : Int32 × (Nat → Int32) × (Nat → Int32) × (Nat → Nat → Int32) := ((-1000000000 - 1), Z, N, F)
theorem kc_putB {Z N : Nat → Int32} {F : Nat → Nat → Int32} (hw : px_cw N) (sheet : Int32) (i : Int32) (v : Int32) (hb : sheet < 0 ∨ 4 ≤ sheet) : px_PM 3 76 [.ref 0, .int sheet, .int i, .int v] (px_CH Z N F, []) (fun r h' => r = some (.int (s_putB Z N F sheet i v).1) ∧ ∃ Z' N' F', px_sc (s_putB Z N F sheet i v).2.1 (s_putB Z N F sheet i v).2.2.1 (s_putB Z N F sheet i v).2.2.2 Z' N' F' ∧ h' = (px_CH Z' N' F', [])) := by
  refine px_PM.start (nL := 5) (code := pc_76) rfl rfl ?_
  refine px_PW.steps kt_76.2 2 rfl ?_
  refine px_PW.callV kt_76.2 rfl rfl rfl rfl (cc_sheetAtB _ hb) (by decide) (fun v h1 q => ?_)
  obtain ⟨rfl, rfl⟩ := q
  refine px_PW.steps kt_76.2 5 rfl ?_
  refine px_PW.callV kt_76.2 rfl rfl rfl rfl (cc_error hw.2.2.1 1 (by decide)) (by decide) (fun v h1 q => ?_)
  obtain ⟨rfl, rfl⟩ := q
  refine px_PW.ret kt_76.2 rfl rfl ?_
  have E : s_putB Z N F sheet i v = ((-1000000000 - 1), Z, N, F) := rfl
  rw [E]
  exact ⟨rfl, _, _, _, px_sc.err, rfl⟩
def s_move (Z N : Nat → Int32) (F : Nat → Nat → Int32) (k : Nat) (i : Int32) (k2 : Nat) (j : Int32) (n : Int32) : Int32 × (Nat → Int32) × (Nat → Int32) × (Nat → Nat → Int32) := (if (Z (2 + k)) = 0 then ((-1000000000 - 2), Z, N, F) else (if (Z (2 + k2)) = 0 then ((-1000000000 - 2), Z, N, F) else (if (Z (2 + k)) = (Z (2 + k2)) then (if i < 0 ∨ n < 0 ∨ (N (19 + k)) < n ∨ (N (19 + k)) - n < i then ((-1000000000 - 1), Z, N, F) else (if j < 0 ∨ n < 0 ∨ (N (19 + k2)) < n ∨ (N (19 + k2)) - n < j then ((-1000000000 - 1), Z, N, F) else (n, Z, N, (va_up F (19 + k2) (va_cpy (F (19 + k)) (F (19 + k2)) (i).toNatClampNeg (j).toNatClampNeg (n).toNatClampNeg))))) else ((-1000000000 - 5), Z, N, F))))
theorem kc_move {Z N : Nat → Int32} {F : Nat → Nat → Int32} (hw : px_cw N) (k : Nat) (i : Int32) (k2 : Nat) (j : Int32) (n : Int32) (hk : k < 4) (hk2 : k2 < 4) : px_PM 3 77 [.ref 0, .int (nI k), .int i, .int (nI k2), .int j, .int n] (px_CH Z N F, []) (fun r h' => r = some (.int (s_move Z N F k i k2 j n).1) ∧ ∃ Z' N' F', px_sc (s_move Z N F k i k2 j n).2.1 (s_move Z N F k i k2 j n).2.2.1 (s_move Z N F k i k2 j n).2.2.2 Z' N' F' ∧ h' = (px_CH Z' N' F', [])) := by
  refine px_PM.start (nL := 8) (code := pc_77) rfl rfl ?_
  refine px_PW.steps kt_77.2 2 rfl ?_
  refine px_PW.callV kt_77.2 rfl rfl rfl rfl (cc_sheetAt k hk) (by decide) (fun v h1 q => ?_)
  obtain ⟨rfl, rfl⟩ := q
  refine px_PW.steps kt_77.2 3 rfl ?_
  refine px_PW.callV kt_77.2 rfl rfl rfl rfl (cc_sheetAt k2 hk2) (by decide) (fun v h1 q => ?_)
  obtain ⟨rfl, rfl⟩ := q
  refine px_PW.steps kt_77.2 6 rfl ?_
  refine px_PW.callV kt_77.2 rfl rfl (ch_isSh hk) rfl (cc_isMissing hk) (by decide) (fun v h1 q => ?_)
  obtain ⟨rfl, rfl⟩ := q
  refine px_PW.steps kt_77.2 1 rfl ?_
  refine px_PW.br (fun c0 => ?_) (fun c0 => ?_)
  · have c0 : (Z (2 + k)) = 0 := px_b1n (of_decide_eq_false (px_nt c0))
    refine px_PW.steps kt_77.2 2 rfl ?_
    refine px_PW.callV kt_77.2 rfl rfl rfl rfl (cc_error hw.2.2.1 2 (by decide)) (by decide) (fun v h1 q => ?_)
    obtain ⟨rfl, rfl⟩ := q
    refine px_PW.ret kt_77.2 rfl rfl ?_
    have E : s_move Z N F k i k2 j n = ((-1000000000 - 2), Z, N, F) := if_pos c0
    rw [E]
    exact ⟨rfl, _, _, _, px_sc.err, rfl⟩
  · have c0 : ¬ ((Z (2 + k)) = 0) := px_b1z (of_decide_eq_true (px_nf c0))
    refine px_PW.steps kt_77.2 1 rfl ?_
    refine px_PW.callV kt_77.2 rfl rfl (ch_isSh hk2) rfl (cc_isMissing hk2) (by decide) (fun v h1 q => ?_)
    obtain ⟨rfl, rfl⟩ := q
    refine px_PW.steps kt_77.2 1 rfl ?_
    refine px_PW.br (fun c1 => ?_) (fun c1 => ?_)
    · have c1 : ¬ ((Z (2 + k2)) = 0) := px_b1z (of_decide_eq_true c1)
      refine px_PW.steps kt_77.2 1 rfl ?_
      refine px_PW.getf kt_77.2 rfl (ch_sh hk) rfl ?_
      refine px_PW.steps kt_77.2 1 rfl ?_
      refine px_PW.getf kt_77.2 rfl (ch_sh hk2) rfl ?_
      refine px_PW.steps kt_77.2 1 rfl ?_
      refine px_PW.br (fun c2 => ?_) (fun c2 => ?_)
      · have c2 : (Z (2 + k)) = (Z (2 + k2)) := of_decide_eq_true c2
        refine px_PW.steps kt_77.2 1 rfl ?_
        refine px_PW.getf kt_77.2 rfl (ch_sh hk) rfl ?_
        refine px_PW.steps kt_77.2 2 rfl ?_
        refine px_PW.callV kt_77.2 rfl rfl (ch_isO (by omega)) rfl (nb_stretches (q := 19 + k) (by omega) _ _) (by decide) (fun v h1 q => ?_)
        obtain ⟨rfl, rfl⟩ := q
        refine px_PW.steps kt_77.2 1 rfl ?_
        refine px_PW.br (fun c3 => ?_) (fun c3 => ?_)
        · have c3 : i < 0 ∨ n < 0 ∨ (N (19 + k)) < n ∨ (N (19 + k)) - n < i := px_b0z (of_decide_eq_true c3)
          refine px_PW.steps kt_77.2 2 rfl ?_
          refine px_PW.callV kt_77.2 rfl rfl rfl rfl (cc_error hw.2.2.1 1 (by decide)) (by decide) (fun v h1 q => ?_)
          obtain ⟨rfl, rfl⟩ := q
          refine px_PW.ret kt_77.2 rfl rfl ?_
          have E : s_move Z N F k i k2 j n = ((-1000000000 - 1), Z, N, F) := (if_neg c0).trans ((if_neg c1).trans ((if_pos c2).trans (if_pos c3)))
          rw [E]
          exact ⟨rfl, _, _, _, px_sc.err, rfl⟩
        · have c3 : ¬ (i < 0 ∨ n < 0 ∨ (N (19 + k)) < n ∨ (N (19 + k)) - n < i) := px_b0n (of_decide_eq_false c3)
          refine px_PW.steps kt_77.2 1 rfl ?_
          refine px_PW.getf kt_77.2 rfl (ch_sh hk2) rfl ?_
          refine px_PW.steps kt_77.2 2 rfl ?_
          refine px_PW.callV kt_77.2 rfl rfl (ch_isO (by omega)) rfl (nb_stretches (q := 19 + k2) (by omega) _ _) (by decide) (fun v h1 q => ?_)
          obtain ⟨rfl, rfl⟩ := q
          refine px_PW.steps kt_77.2 1 rfl ?_
          refine px_PW.br (fun c4 => ?_) (fun c4 => ?_)
          · have c4 : ¬ (j < 0 ∨ n < 0 ∨ (N (19 + k2)) < n ∨ (N (19 + k2)) - n < j) := px_b0n (of_decide_eq_false (px_nt c4))
            refine px_PW.steps kt_77.2 1 rfl ?_
            refine px_PW.getf kt_77.2 rfl (ch_sh hk2) rfl ?_
            refine px_PW.steps kt_77.2 1 rfl ?_
            refine px_PW.getf kt_77.2 rfl (ch_sh hk) rfl ?_
            refine px_PW.steps kt_77.2 3 rfl ?_
            refine px_PW.callV kt_77.2 rfl rfl (ch_isO (by omega)) rfl (nb_takeS (q := (19 + k2)) (p := (19 + k)) (by omega) (by omega) (hw.lim (by omega)) (hw.lim (by omega)) c3 c4) (by decide) (fun v h1 q => ?_)
            obtain ⟨rfl, rfl⟩ := q
            refine px_PW.steps kt_77.2 1 rfl ?_
            refine px_PW.ret kt_77.2 rfl rfl ?_
            have E : s_move Z N F k i k2 j n = (n, Z, N, (va_up F (19 + k2) (va_cpy (F (19 + k)) (F (19 + k2)) (i).toNatClampNeg (j).toNatClampNeg (n).toNatClampNeg))) := (if_neg c0).trans ((if_neg c1).trans ((if_pos c2).trans ((if_neg c3).trans (if_neg c4))))
            rw [E]
            exact ⟨rfl, _, _, _, px_sc.rf, rfl⟩
          · have c4 : j < 0 ∨ n < 0 ∨ (N (19 + k2)) < n ∨ (N (19 + k2)) - n < j := px_b0z (of_decide_eq_true (px_nf c4))
            refine px_PW.steps kt_77.2 2 rfl ?_
            refine px_PW.callV kt_77.2 rfl rfl rfl rfl (cc_error hw.2.2.1 1 (by decide)) (by decide) (fun v h1 q => ?_)
            obtain ⟨rfl, rfl⟩ := q
            refine px_PW.ret kt_77.2 rfl rfl ?_
            have E : s_move Z N F k i k2 j n = ((-1000000000 - 1), Z, N, F) := (if_neg c0).trans ((if_neg c1).trans ((if_pos c2).trans ((if_neg c3).trans (if_pos c4))))
            rw [E]
            exact ⟨rfl, _, _, _, px_sc.err, rfl⟩
      · have c2 : ¬ ((Z (2 + k)) = (Z (2 + k2))) := of_decide_eq_false c2
        refine px_PW.steps kt_77.2 2 rfl ?_
        refine px_PW.callV kt_77.2 rfl rfl rfl rfl (cc_error hw.2.2.1 5 (by decide)) (by decide) (fun v h1 q => ?_)
        obtain ⟨rfl, rfl⟩ := q
        refine px_PW.ret kt_77.2 rfl rfl ?_
        have E : s_move Z N F k i k2 j n = ((-1000000000 - 5), Z, N, F) := (if_neg c0).trans ((if_neg c1).trans (if_neg c2))
        rw [E]
        exact ⟨rfl, _, _, _, px_sc.err, rfl⟩
    · have c1 : (Z (2 + k2)) = 0 := px_b1n (of_decide_eq_false c1)
      refine px_PW.steps kt_77.2 2 rfl ?_
      refine px_PW.callV kt_77.2 rfl rfl rfl rfl (cc_error hw.2.2.1 2 (by decide)) (by decide) (fun v h1 q => ?_)
      obtain ⟨rfl, rfl⟩ := q
      refine px_PW.ret kt_77.2 rfl rfl ?_
      have E : s_move Z N F k i k2 j n = ((-1000000000 - 2), Z, N, F) := (if_neg c0).trans (if_pos c1)
      rw [E]
      exact ⟨rfl, _, _, _, px_sc.err, rfl⟩
def s_moveB1 (Z N : Nat → Int32) (F : Nat → Nat → Int32) (sheet : Int32) (i : Int32) (k2 : Nat) (j : Int32) (n : Int32) : Int32 × (Nat → Int32) × (Nat → Int32) × (Nat → Nat → Int32) := ((-1000000000 - 1), Z, N, F)
theorem kc_moveB1 {Z N : Nat → Int32} {F : Nat → Nat → Int32} (hw : px_cw N) (sheet : Int32) (i : Int32) (k2 : Nat) (j : Int32) (n : Int32) (hb : sheet < 0 ∨ 4 ≤ sheet) (hk2 : k2 < 4) : px_PM 3 77 [.ref 0, .int sheet, .int i, .int (nI k2), .int j, .int n] (px_CH Z N F, []) (fun r h' => r = some (.int (s_moveB1 Z N F sheet i k2 j n).1) ∧ ∃ Z' N' F', px_sc (s_moveB1 Z N F sheet i k2 j n).2.1 (s_moveB1 Z N F sheet i k2 j n).2.2.1 (s_moveB1 Z N F sheet i k2 j n).2.2.2 Z' N' F' ∧ h' = (px_CH Z' N' F', [])) := by
  refine px_PM.start (nL := 8) (code := pc_77) rfl rfl ?_
  refine px_PW.steps kt_77.2 2 rfl ?_
  refine px_PW.callV kt_77.2 rfl rfl rfl rfl (cc_sheetAtB _ hb) (by decide) (fun v h1 q => ?_)
  obtain ⟨rfl, rfl⟩ := q
  refine px_PW.steps kt_77.2 3 rfl ?_
  refine px_PW.callV kt_77.2 rfl rfl rfl rfl (cc_sheetAt k2 hk2) (by decide) (fun v h1 q => ?_)
  obtain ⟨rfl, rfl⟩ := q
  refine px_PW.steps kt_77.2 5 rfl ?_
  refine px_PW.callV kt_77.2 rfl rfl rfl rfl (cc_error hw.2.2.1 1 (by decide)) (by decide) (fun v h1 q => ?_)
  obtain ⟨rfl, rfl⟩ := q
  refine px_PW.ret kt_77.2 rfl rfl ?_
  have E : s_moveB1 Z N F sheet i k2 j n = ((-1000000000 - 1), Z, N, F) := rfl
  rw [E]
  exact ⟨rfl, _, _, _, px_sc.err, rfl⟩
def s_moveB2 (Z N : Nat → Int32) (F : Nat → Nat → Int32) (k : Nat) (i : Int32) (other : Int32) (j : Int32) (n : Int32) : Int32 × (Nat → Int32) × (Nat → Int32) × (Nat → Nat → Int32) := ((-1000000000 - 1), Z, N, F)
theorem kc_moveB2 {Z N : Nat → Int32} {F : Nat → Nat → Int32} (hw : px_cw N) (k : Nat) (i : Int32) (other : Int32) (j : Int32) (n : Int32) (hk : k < 4) (hb2 : other < 0 ∨ 4 ≤ other) : px_PM 3 77 [.ref 0, .int (nI k), .int i, .int other, .int j, .int n] (px_CH Z N F, []) (fun r h' => r = some (.int (s_moveB2 Z N F k i other j n).1) ∧ ∃ Z' N' F', px_sc (s_moveB2 Z N F k i other j n).2.1 (s_moveB2 Z N F k i other j n).2.2.1 (s_moveB2 Z N F k i other j n).2.2.2 Z' N' F' ∧ h' = (px_CH Z' N' F', [])) := by
  refine px_PM.start (nL := 8) (code := pc_77) rfl rfl ?_
  refine px_PW.steps kt_77.2 2 rfl ?_
  refine px_PW.callV kt_77.2 rfl rfl rfl rfl (cc_sheetAt k hk) (by decide) (fun v h1 q => ?_)
  obtain ⟨rfl, rfl⟩ := q
  refine px_PW.steps kt_77.2 3 rfl ?_
  refine px_PW.callV kt_77.2 rfl rfl rfl rfl (cc_sheetAtB _ hb2) (by decide) (fun v h1 q => ?_)
  obtain ⟨rfl, rfl⟩ := q
  refine px_PW.steps kt_77.2 7 rfl ?_
  refine px_PW.callV kt_77.2 rfl rfl rfl rfl (cc_error hw.2.2.1 1 (by decide)) (by decide) (fun v h1 q => ?_)
  obtain ⟨rfl, rfl⟩ := q
  refine px_PW.ret kt_77.2 rfl rfl ?_
  have E : s_moveB2 Z N F k i other j n = ((-1000000000 - 1), Z, N, F) := rfl
  rw [E]
  exact ⟨rfl, _, _, _, px_sc.err, rfl⟩
def s_moveB3 (Z N : Nat → Int32) (F : Nat → Nat → Int32) (sheet : Int32) (i : Int32) (other : Int32) (j : Int32) (n : Int32) : Int32 × (Nat → Int32) × (Nat → Int32) × (Nat → Nat → Int32) := ((-1000000000 - 1), Z, N, F)
theorem kc_moveB3 {Z N : Nat → Int32} {F : Nat → Nat → Int32} (hw : px_cw N) (sheet : Int32) (i : Int32) (other : Int32) (j : Int32) (n : Int32) (hb : sheet < 0 ∨ 4 ≤ sheet) (hb2 : other < 0 ∨ 4 ≤ other) : px_PM 3 77 [.ref 0, .int sheet, .int i, .int other, .int j, .int n] (px_CH Z N F, []) (fun r h' => r = some (.int (s_moveB3 Z N F sheet i other j n).1) ∧ ∃ Z' N' F', px_sc (s_moveB3 Z N F sheet i other j n).2.1 (s_moveB3 Z N F sheet i other j n).2.2.1 (s_moveB3 Z N F sheet i other j n).2.2.2 Z' N' F' ∧ h' = (px_CH Z' N' F', [])) := by
  refine px_PM.start (nL := 8) (code := pc_77) rfl rfl ?_
  refine px_PW.steps kt_77.2 2 rfl ?_
  refine px_PW.callV kt_77.2 rfl rfl rfl rfl (cc_sheetAtB _ hb) (by decide) (fun v h1 q => ?_)
  obtain ⟨rfl, rfl⟩ := q
  refine px_PW.steps kt_77.2 3 rfl ?_
  refine px_PW.callV kt_77.2 rfl rfl rfl rfl (cc_sheetAtB _ hb2) (by decide) (fun v h1 q => ?_)
  obtain ⟨rfl, rfl⟩ := q
  refine px_PW.steps kt_77.2 5 rfl ?_
  refine px_PW.callV kt_77.2 rfl rfl rfl rfl (cc_error hw.2.2.1 1 (by decide)) (by decide) (fun v h1 q => ?_)
  obtain ⟨rfl, rfl⟩ := q
  refine px_PW.ret kt_77.2 rfl rfl ?_
  have E : s_moveB3 Z N F sheet i other j n = ((-1000000000 - 1), Z, N, F) := rfl
  rw [E]
  exact ⟨rfl, _, _, _, px_sc.err, rfl⟩
