theorem nb_getT {Z N : Nat → Int32} {F : Nat → Nat → Int32} {q : Nat} (hq : q < 27) {i : Int32} (hl : (N q).toInt ≤ px_lim q) (hN : N q = N 1) (hi : ¬ (i < 0 ∨ N 1 ≤ i)) : px_PM 1 6 [.ref (px_O q), .int i] (px_CH Z N F, []) (fun r h' => r = some (.int (F q i.toNatClampNeg)) ∧ h' = (px_CH Z N F, [])) := by
  have h := nb_get (Z := Z) (N := N) (F := F) hq i hl
  rw [hN, if_neg hi] at h
  exact h
theorem nb_setT {Z N : Nat → Int32} {F : Nat → Nat → Int32} {q : Nat} (hq : q < 27) {i : Int32} (hl : (N q).toInt ≤ px_lim q) (hN : N q = N 1) (hi : ¬ (i < 0 ∨ N 1 ≤ i)) (v : Int32) : px_PM 1 7 [.ref (px_O q), .int i, .int v] (px_CH Z N F, []) (fun r h' => r = none ∧ h' = (px_CH Z N (va_up F q (upd (F q) i.toNatClampNeg v)), [])) := by
  have h := nb_set (Z := Z) (N := N) (F := F) hq i v hl
  rw [hN, if_neg hi] at h
  exact h
theorem nb_setW {Z N : Nat → Int32} {F : Nat → Nat → Int32} (h0 : N 0 = 7) (k : Nat) (hk : k < 7) (v : Int32) : px_PM 1 7 [.ref 2, .int (Int32.ofNat k), .int v] (px_CH Z N F, []) (fun r h' => r = none ∧ h' = (px_CH Z N (va_up F 0 (upd (F 0) k v)), [])) := by
  have h := nb_set (Z := Z) (N := N) (F := F) (q := 0) (by decide) (Int32.ofNat k) v (px_l7 h0)
  rw [if_neg (px_k18 h0 hk).1, (px_k18 h0 hk).2] at h
  exact h
theorem nb_setV {Z N : Nat → Int32} {F : Nat → Nat → Int32} (h0 : N 0 = 7) (v : Int32) {i : Int32} (hi : ∃ k : Nat, k < 6 ∧ i = nI k) : px_PM 1 7 [.ref 2, .int i, .int v] (px_CH Z N F, []) (fun r h' => r = none ∧ h' = (px_CH Z N (va_up F 0 (upd (F 0) i.toNatClampNeg v)), [])) := by
  obtain ⟨k, hk, rfl⟩ := hi
  have h := nb_setW (Z := Z) (N := N) (F := F) h0 k (by omega) v
  rw [nI_clamp (by omega)]
  exact h
theorem cc_isV {Z N : Nat → Int32} {F : Nat → Nat → Int32} (h0 : N 0 = 7) {i : Int32} (hi : ∃ k : Nat, k < 7 ∧ i = nI k) : px_PM 2 87 [.ref 0, .int i] (px_CH Z N F, []) (fun r h' => r = some (.int (F 0 i.toNatClampNeg)) ∧ h' = (px_CH Z N F, [])) := by
  obtain ⟨k, hk, rfl⟩ := hi
  rw [nI_clamp (by omega)]
  exact cc_is h0 k hk
theorem px_lt7 {i : Int32} {n : Nat} (hn : n < 1000) (c0 : ¬ (i < 0)) (c1 : ¬ (nI n < i)) : ∃ k : Nat, k < n + 1 ∧ i = nI k := by
  obtain ⟨k, hk, rfl⟩ := nI_of c0
  rw [nI_ltI (by omega) (by omega)] at c1
  exact ⟨k, by omega, rfl⟩
theorem cc_isRow {Z N : Nat → Int32} {F : Nat → Nat → Int32} (h0 : N 0 = 7) (k : Int32) : px_PM 3 89 [.ref 0, .int k] (px_CH Z N F, []) (fun r h' => r = some (.int (if k < 0 ∨ F 0 4 ≤ k then 0 else 1)) ∧ h' = (px_CH Z N F, [])) := by
  refine px_PM.start (nL := 2) (code := pc_89) rfl rfl ?_
  refine px_PW.steps kt_89.2 2 rfl ?_
  refine px_PW.br (fun c0 => ?_) (fun c0 => ?_)
  · have c0 := of_decide_eq_true c0
    refine px_PW.steps kt_89.2 1 rfl ?_
    refine px_PW.ret kt_89.2 rfl rfl ?_
    exact ⟨by simp [*], rfl⟩
  · have c0 := of_decide_eq_false c0
    refine px_PW.steps kt_89.2 3 rfl ?_
    refine px_PW.callV kt_89.2 rfl rfl rfl rfl (cc_is h0 4 (by decide)) (by decide) (fun v h1 q => ?_)
    obtain ⟨rfl, rfl⟩ := q
    refine px_PW.steps kt_89.2 1 rfl ?_
    refine px_PW.br (fun c1 => ?_) (fun c1 => ?_)
    · have c1 := of_decide_eq_true c1
      refine px_PW.steps kt_89.2 1 rfl ?_
      refine px_PW.ret kt_89.2 rfl rfl ?_
      exact ⟨by simp [*], rfl⟩
    · have c1 := of_decide_eq_false c1
      refine px_PW.steps kt_89.2 2 rfl ?_
      refine px_PW.ret kt_89.2 rfl rfl ?_
      exact ⟨by simp [*], rfl⟩
theorem px_kaldV {d : Nat} {code : Nat → Option px_A} (hT : px_frT code) {Q : Option Value → px_H → Prop} {pc : Nat} {a : Nat} {i : Int32} {lv : px_L} {r : List Value} {h : px_H} (hc : code pc = some px_kald) (hi : ∃ k : Nat, k < 6 ∧ i = nI k) (k : px_PW d code Q (pc + 1) lv (.int (cond (Nat.beq a 3000) (px_K0 i.toNatClampNeg) (px_K1 i.toNatClampNeg)) :: r) h) (ha : a = 3000 ∨ a = 3001 := by decide) : px_PW d code Q pc lv (.int i :: .ref a :: r) h := by
  obtain ⟨n, hn, rfl⟩ := hi
  refine px_PW.one hc (fun m => ?_) k hT
  unfold px_kald
  dsimp only
  rw [px_inbN hn (by decide)]
  rcases ha with rfl | rfl <;> rfl
theorem px_lt6 {i : Int32} (h : ∃ k : Nat, k < 6 ∧ i = nI k) : ∃ k : Nat, k < 7 ∧ i = nI k := by obtain ⟨k, a, b⟩ := h; exact ⟨k, by omega, b⟩
def s_wall (Z N : Nat → Int32) (F : Nat → Nat → Int32) (what : Int32) (v : Int32) : Int32 × (Nat → Int32) × (Nat → Int32) × (Nat → Nat → Int32) := (if what < 0 then ((-1000000000 - 1), Z, N, F) else (if 5 < what then ((-1000000000 - 1), Z, N, F) else (if v < (px_K0 (what).toNatClampNeg) then ((-1000000000 - 1), Z, N, F) else (if v ≤ (px_K1 (what).toNatClampNeg) then (if what = 1 then (((F 0) (what).toNatClampNeg), Z, N, (va_up (va_up F 0 (upd (F 0) (what).toNatClampNeg v)) 0 (upd (upd (F 0) (what).toNatClampNeg v) 6 v))) else (((F 0) (what).toNatClampNeg), Z, N, (va_up F 0 (upd (F 0) (what).toNatClampNeg v)))) else ((-1000000000 - 1), Z, N, F)))))
theorem kc_wall {Z N : Nat → Int32} {F : Nat → Nat → Int32} (hw : px_cw N) (what : Int32) (v : Int32) : px_PM 3 49 [.ref 0, .int what, .int v] (px_CH Z N F, []) (fun r h' => r = some (.int (s_wall Z N F what v).1) ∧ ∃ Z' N' F', px_sc (s_wall Z N F what v).2.1 (s_wall Z N F what v).2.2.1 (s_wall Z N F what v).2.2.2 Z' N' F' ∧ h' = (px_CH Z' N' F', [])) := by
  refine px_PM.start (nL := 4) (code := pc_49) rfl rfl ?_
  refine px_PW.steps kt_49.2 2 rfl ?_
  refine px_PW.br (fun c0 => ?_) (fun c0 => ?_)
  · have c0 : what < 0 := of_decide_eq_true c0
    refine px_PW.steps kt_49.2 2 rfl ?_
    refine px_PW.callV kt_49.2 rfl rfl rfl rfl (cc_error hw.2.2.1 1 (by decide)) (by decide) (fun v h1 q => ?_)
    obtain ⟨rfl, rfl⟩ := q
    refine px_PW.ret kt_49.2 rfl rfl ?_
    have E : s_wall Z N F what v = ((-1000000000 - 1), Z, N, F) := if_pos c0
    rw [E]
    exact ⟨rfl, _, _, _, px_sc.err, rfl⟩
  · have c0 : ¬ (what < 0) := of_decide_eq_false c0
    refine px_PW.steps kt_49.2 3 rfl ?_
    refine px_PW.br (fun c1 => ?_) (fun c1 => ?_)
    · have c1 : 5 < what := of_decide_eq_true c1
      refine px_PW.steps kt_49.2 2 rfl ?_
      refine px_PW.callV kt_49.2 rfl rfl rfl rfl (cc_error hw.2.2.1 1 (by decide)) (by decide) (fun v h1 q => ?_)
      obtain ⟨rfl, rfl⟩ := q
      refine px_PW.ret kt_49.2 rfl rfl ?_
      have E : s_wall Z N F what v = ((-1000000000 - 1), Z, N, F) := (if_neg c0).trans (if_pos c1)
      rw [E]
      exact ⟨rfl, _, _, _, px_sc.err, rfl⟩
    · have c1 : ¬ (5 < what) := of_decide_eq_false c1
      refine px_PW.steps kt_49.2 3 rfl ?_
      refine px_kaldV kt_49.2 (a := 3000) rfl (px_lt7 (n := 5) (by decide) c0 c1) ?_
      refine px_PW.steps kt_49.2 1 rfl ?_
      refine px_PW.br (fun c2 => ?_) (fun c2 => ?_)
      · have c2 : v < (px_K0 (what).toNatClampNeg) := of_decide_eq_true c2
        refine px_PW.steps kt_49.2 2 rfl ?_
        refine px_PW.callV kt_49.2 rfl rfl rfl rfl (cc_error hw.2.2.1 1 (by decide)) (by decide) (fun v h1 q => ?_)
        obtain ⟨rfl, rfl⟩ := q
        refine px_PW.ret kt_49.2 rfl rfl ?_
        have E : s_wall Z N F what v = ((-1000000000 - 1), Z, N, F) := (if_neg c0).trans ((if_neg c1).trans (if_pos c2))
        rw [E]
        exact ⟨rfl, _, _, _, px_sc.err, rfl⟩
      · have c2 : ¬ (v < (px_K0 (what).toNatClampNeg)) := of_decide_eq_false c2
        refine px_PW.steps kt_49.2 3 rfl ?_
        refine px_kaldV kt_49.2 (a := 3001) rfl (px_lt7 (n := 5) (by decide) c0 c1) ?_
        refine px_PW.steps kt_49.2 1 rfl ?_
        refine px_PW.br (fun c3 => ?_) (fun c3 => ?_)
        · have c3 : v ≤ (px_K1 (what).toNatClampNeg) := of_decide_eq_true c3
          refine px_PW.steps kt_49.2 2 rfl ?_
          refine px_PW.callV kt_49.2 rfl rfl rfl rfl (cc_isV hw.1 (px_lt6 (px_lt7 (n := 5) (by decide) c0 c1))) (by decide) (fun v h1 q => ?_)
          obtain ⟨rfl, rfl⟩ := q
          refine px_PW.steps kt_49.2 6 rfl ?_
          refine px_PW.callV kt_49.2 rfl rfl rfl rfl (nb_setV hw.1 _ (px_lt7 (n := 5) (by decide) c0 c1)) (by decide) (fun v h1 q => ?_)
          obtain ⟨rfl, rfl⟩ := q
          refine px_PW.steps kt_49.2 3 rfl ?_
          refine px_PW.br (fun c4 => ?_) (fun c4 => ?_)
          · have c4 : ¬ (what = 1) := of_decide_eq_false (px_nt c4)
            refine px_PW.steps kt_49.2 1 rfl ?_
            refine px_PW.ret kt_49.2 rfl rfl ?_
            have E : s_wall Z N F what v = (((F 0) (what).toNatClampNeg), Z, N, (va_up F 0 (upd (F 0) (what).toNatClampNeg v))) := (if_neg c0).trans ((if_neg c1).trans ((if_neg c2).trans ((if_pos c3).trans (if_neg c4))))
            rw [E]
            exact ⟨rfl, _, _, _, px_sc.rf, rfl⟩
          · have c4 : what = 1 := of_decide_eq_true (px_nf c4)
            refine px_PW.steps kt_49.2 5 rfl ?_
            refine px_PW.callV kt_49.2 rfl rfl rfl rfl (nb_setW hw.1 6 (by decide) _) (by decide) (fun v h1 q => ?_)
            obtain ⟨rfl, rfl⟩ := q
            refine px_PW.steps kt_49.2 1 rfl ?_
            refine px_PW.ret kt_49.2 rfl rfl ?_
            have E : s_wall Z N F what v = (((F 0) (what).toNatClampNeg), Z, N, (va_up (va_up F 0 (upd (F 0) (what).toNatClampNeg v)) 0 (upd (upd (F 0) (what).toNatClampNeg v) 6 v))) := (if_neg c0).trans ((if_neg c1).trans ((if_neg c2).trans ((if_pos c3).trans (if_pos c4))))
            rw [E]
            exact ⟨rfl, _, _, _, px_sc.rf, rfl⟩
        · have c3 : ¬ (v ≤ (px_K1 (what).toNatClampNeg)) := of_decide_eq_false c3
          refine px_PW.steps kt_49.2 2 rfl ?_
          refine px_PW.callV kt_49.2 rfl rfl rfl rfl (cc_error hw.2.2.1 1 (by decide)) (by decide) (fun v h1 q => ?_)
          obtain ⟨rfl, rfl⟩ := q
          refine px_PW.ret kt_49.2 rfl rfl ?_
          have E : s_wall Z N F what v = ((-1000000000 - 1), Z, N, F) := (if_neg c0).trans ((if_neg c1).trans ((if_neg c2).trans (if_neg c3)))
          rw [E]
          exact ⟨rfl, _, _, _, px_sc.err, rfl⟩
def s_wallIs (Z N : Nat → Int32) (F : Nat → Nat → Int32) (what : Int32) : Int32 := (if what < 0 then (-1000000000 - 1) else (if what ≤ 6 then ((F 0) (what).toNatClampNeg) else (-1000000000 - 1)))
theorem kc_wallIs {Z N : Nat → Int32} {F : Nat → Nat → Int32} (hw : px_cw N) (what : Int32) : px_PM 3 50 [.ref 0, .int what] (px_CH Z N F, []) (fun r h' => r = some (.int (s_wallIs Z N F what)) ∧ ∃ Z' N' F', px_sc Z N F Z' N' F' ∧ h' = (px_CH Z' N' F', [])) := by
  refine px_PM.start (nL := 2) (code := pc_50) rfl rfl ?_
  refine px_PW.steps kt_50.2 2 rfl ?_
  refine px_PW.br (fun c0 => ?_) (fun c0 => ?_)
  · have c0 : what < 0 := of_decide_eq_true c0
    refine px_PW.steps kt_50.2 2 rfl ?_
    refine px_PW.callV kt_50.2 rfl rfl rfl rfl (cc_error hw.2.2.1 1 (by decide)) (by decide) (fun v h1 q => ?_)
    obtain ⟨rfl, rfl⟩ := q
    refine px_PW.steps kt_50.2 1 rfl ?_
    refine px_PW.ret kt_50.2 rfl rfl ?_
    have E : s_wallIs Z N F what = (-1000000000 - 1) := if_pos c0
    rw [E]
    exact ⟨rfl, _, _, _, px_sc.err, rfl⟩
  · have c0 : ¬ (what < 0) := of_decide_eq_false c0
    refine px_PW.steps kt_50.2 3 rfl ?_
    refine px_PW.br (fun c1 => ?_) (fun c1 => ?_)
    · have c1 : what ≤ 6 := of_decide_eq_true c1
      refine px_PW.steps kt_50.2 2 rfl ?_
      refine px_PW.callV kt_50.2 rfl rfl rfl rfl (cc_isV hw.1 (px_lt7 (n := 6) (by decide) c0 (Int32.not_lt.mpr c1))) (by decide) (fun v h1 q => ?_)
      obtain ⟨rfl, rfl⟩ := q
      refine px_PW.ret kt_50.2 rfl rfl ?_
      have E : s_wallIs Z N F what = ((F 0) (what).toNatClampNeg) := (if_neg c0).trans (if_pos c1)
      rw [E]
      exact ⟨rfl, _, _, _, px_sc.rf, rfl⟩
    · have c1 : ¬ (what ≤ 6) := of_decide_eq_false c1
      refine px_PW.steps kt_50.2 2 rfl ?_
      refine px_PW.callV kt_50.2 rfl rfl rfl rfl (cc_error hw.2.2.1 1 (by decide)) (by decide) (fun v h1 q => ?_)
      obtain ⟨rfl, rfl⟩ := q
      refine px_PW.steps kt_50.2 1 rfl ?_
      refine px_PW.ret kt_50.2 rfl rfl ?_
      have E : s_wallIs Z N F what = (-1000000000 - 1) := (if_neg c0).trans (if_neg c1)
      rw [E]
      exact ⟨rfl, _, _, _, px_sc.err, rfl⟩
def s_begin (Z N : Nat → Int32) (F : Nat → Nat → Int32) (first : Int32) : Int32 × (Nat → Int32) × (Nat → Int32) × (Nat → Nat → Int32) := (if first < 1 then ((-1000000000 - 1), Z, N, F) else (if first ≤ ((F 0) 1) then (((F 0) 6), Z, N, (va_up F 0 (upd (F 0) 6 first))) else ((-1000000000 - 1), Z, N, F)))
theorem kc_begin {Z N : Nat → Int32} {F : Nat → Nat → Int32} (hw : px_cw N) (first : Int32) : px_PM 3 51 [.ref 0, .int first] (px_CH Z N F, []) (fun r h' => r = some (.int (s_begin Z N F first).1) ∧ ∃ Z' N' F', px_sc (s_begin Z N F first).2.1 (s_begin Z N F first).2.2.1 (s_begin Z N F first).2.2.2 Z' N' F' ∧ h' = (px_CH Z' N' F', [])) := by
  refine px_PM.start (nL := 3) (code := pc_51) rfl rfl ?_
  refine px_PW.steps kt_51.2 3 rfl ?_
  refine px_PW.br (fun c0 => ?_) (fun c0 => ?_)
  · have c0 : first < 1 := of_decide_eq_true c0
    refine px_PW.steps kt_51.2 2 rfl ?_
    refine px_PW.callV kt_51.2 rfl rfl rfl rfl (cc_error hw.2.2.1 1 (by decide)) (by decide) (fun v h1 q => ?_)
    obtain ⟨rfl, rfl⟩ := q
    refine px_PW.ret kt_51.2 rfl rfl ?_
    have E : s_begin Z N F first = ((-1000000000 - 1), Z, N, F) := if_pos c0
    rw [E]
    exact ⟨rfl, _, _, _, px_sc.err, rfl⟩
  · have c0 : ¬ (first < 1) := of_decide_eq_false c0
    refine px_PW.steps kt_51.2 3 rfl ?_
    refine px_PW.callV kt_51.2 rfl rfl rfl rfl (cc_is hw.1 1 (by decide)) (by decide) (fun v h1 q => ?_)
    obtain ⟨rfl, rfl⟩ := q
    refine px_PW.steps kt_51.2 1 rfl ?_
    refine px_PW.br (fun c1 => ?_) (fun c1 => ?_)
    · have c1 : first ≤ ((F 0) 1) := of_decide_eq_true c1
      refine px_PW.steps kt_51.2 2 rfl ?_
      refine px_PW.callV kt_51.2 rfl rfl rfl rfl (cc_is hw.1 6 (by decide)) (by decide) (fun v h1 q => ?_)
      obtain ⟨rfl, rfl⟩ := q
      refine px_PW.steps kt_51.2 6 rfl ?_
      refine px_PW.callV kt_51.2 rfl rfl rfl rfl (nb_setW hw.1 6 (by decide) _) (by decide) (fun v h1 q => ?_)
      obtain ⟨rfl, rfl⟩ := q
      refine px_PW.steps kt_51.2 1 rfl ?_
      refine px_PW.ret kt_51.2 rfl rfl ?_
      have E : s_begin Z N F first = (((F 0) 6), Z, N, (va_up F 0 (upd (F 0) 6 first))) := (if_neg c0).trans (if_pos c1)
      rw [E]
      exact ⟨rfl, _, _, _, px_sc.rf, rfl⟩
    · have c1 : ¬ (first ≤ ((F 0) 1)) := of_decide_eq_false c1
      refine px_PW.steps kt_51.2 2 rfl ?_
      refine px_PW.callV kt_51.2 rfl rfl rfl rfl (cc_error hw.2.2.1 1 (by decide)) (by decide) (fun v h1 q => ?_)
      obtain ⟨rfl, rfl⟩ := q
      refine px_PW.ret kt_51.2 rfl rfl ?_
      have E : s_begin Z N F first = ((-1000000000 - 1), Z, N, F) := (if_neg c0).trans (if_neg c1)
      rw [E]
      exact ⟨rfl, _, _, _, px_sc.err, rfl⟩
def s_thingIs (Z N : Nat → Int32) (F : Nat → Nat → Int32) (thing : Int32) (what : Int32) : Int32 := (if thing < 0 ∨ (N 1) ≤ thing then (-1000000000 - 1) else (if what = 0 then ((F 1) (thing).toNatClampNeg) else (if what = 1 then ((F 2) (thing).toNatClampNeg) else (if what = 2 then ((F 3) (thing).toNatClampNeg) else (if what = 3 then ((F 4) (thing).toNatClampNeg) else (-1000000000 - 1))))))
theorem px_swd_53_15 {x : Int32} (c0 : ¬ (x = 0)) (c1 : ¬ (x = 1)) (c2 : ¬ (x = 2)) (c3 : ¬ (x = 3)) : px_sw 0 [44, 56, 68, 80] 92 x.toInt = 92 := by
  have d0 : ¬ (x.toInt = 0) := fun h => c0 (px_i_of h (by decide +kernel))
  have d1 : ¬ (x.toInt = 1) := fun h => c1 (px_i_of h (by decide +kernel))
  have d2 : ¬ (x.toInt = 2) := fun h => c2 (px_i_of h (by decide +kernel))
  have d3 : ¬ (x.toInt = 3) := fun h => c3 (px_i_of h (by decide +kernel))
  exact px_sw_d (fun y h1 h2 => by
    have h1 : (0 : Int) ≤ y := h1
    have h2 : y < 4 := h2
    rcases (show y = 0 ∨ y = 1 ∨ y = 2 ∨ y = 3 by omega) with rfl | rfl | rfl | rfl
    · exact Or.inl (fun h => d0 h)
    · exact Or.inl (fun h => d1 h)
    · exact Or.inl (fun h => d2 h)
    · exact Or.inl (fun h => d3 h))
theorem kc_thingIs {Z N : Nat → Int32} {F : Nat → Nat → Int32} (hw : px_cw N) (hT : N 2 = N 1 ∧ N 3 = N 1 ∧ N 4 = N 1) (thing : Int32) (what : Int32) : px_PM 3 53 [.ref 0, .int thing, .int what] (px_CH Z N F, []) (fun r h' => r = some (.int (s_thingIs Z N F thing what)) ∧ ∃ Z' N' F', px_sc Z N F Z' N' F' ∧ h' = (px_CH Z' N' F', [])) := by
  refine px_PM.start (nL := 3) (code := pc_53) rfl rfl ?_
  refine px_PW.steps kt_53.2 2 rfl ?_
  refine px_PW.callV kt_53.2 rfl rfl rfl rfl (cc_isThing _) (by decide) (fun v h1 q => ?_)
  obtain ⟨rfl, rfl⟩ := q
  refine px_PW.steps kt_53.2 1 rfl ?_
  refine px_PW.br (fun c0 => ?_) (fun c0 => ?_)
  · have c0 : ¬ (thing < 0 ∨ (N 1) ≤ thing) := px_b0n (of_decide_eq_false (px_nt c0))
    refine px_PW.steps kt_53.2 2 rfl ?_
    by_cases c1 : what = 0
    · refine px_PW.at (pc' := 44) (by rw [c1]; rfl) ?_
      refine px_PW.steps kt_53.2 4 rfl ?_
      refine px_PW.callV kt_53.2 rfl rfl rfl rfl (nb_getT (q := 1) (by decide) (hw.lim (by decide)) rfl c0) (by decide) (fun v h1 q => ?_)
      obtain ⟨rfl, rfl⟩ := q
      refine px_PW.ret kt_53.2 rfl rfl ?_
      have E : s_thingIs Z N F thing what = ((F 1) (thing).toNatClampNeg) := (if_neg c0).trans (if_pos c1)
      rw [E]
      exact ⟨rfl, _, _, _, px_sc.rf, rfl⟩
    · skip
      by_cases c2 : what = 1
      · refine px_PW.at (pc' := 56) (by rw [c2]; rfl) ?_
        refine px_PW.steps kt_53.2 4 rfl ?_
        refine px_PW.callV kt_53.2 rfl rfl rfl rfl (nb_getT (q := 2) (by decide) (hw.lim (by decide)) hT.1 c0) (by decide) (fun v h1 q => ?_)
        obtain ⟨rfl, rfl⟩ := q
        refine px_PW.ret kt_53.2 rfl rfl ?_
        have E : s_thingIs Z N F thing what = ((F 2) (thing).toNatClampNeg) := (if_neg c0).trans ((if_neg c1).trans (if_pos c2))
        rw [E]
        exact ⟨rfl, _, _, _, px_sc.rf, rfl⟩
      · skip
        by_cases c3 : what = 2
        · refine px_PW.at (pc' := 68) (by rw [c3]; rfl) ?_
          refine px_PW.steps kt_53.2 4 rfl ?_
          refine px_PW.callV kt_53.2 rfl rfl rfl rfl (nb_getT (q := 3) (by decide) (hw.lim (by decide)) hT.2.1 c0) (by decide) (fun v h1 q => ?_)
          obtain ⟨rfl, rfl⟩ := q
          refine px_PW.ret kt_53.2 rfl rfl ?_
          have E : s_thingIs Z N F thing what = ((F 3) (thing).toNatClampNeg) := (if_neg c0).trans ((if_neg c1).trans ((if_neg c2).trans (if_pos c3)))
          rw [E]
          exact ⟨rfl, _, _, _, px_sc.rf, rfl⟩
        · skip
          by_cases c4 : what = 3
          · refine px_PW.at (pc' := 80) (by rw [c4]; rfl) ?_
            refine px_PW.steps kt_53.2 4 rfl ?_
            refine px_PW.callV kt_53.2 rfl rfl rfl rfl (nb_getT (q := 4) (by decide) (hw.lim (by decide)) hT.2.2 c0) (by decide) (fun v h1 q => ?_)
            obtain ⟨rfl, rfl⟩ := q
            refine px_PW.ret kt_53.2 rfl rfl ?_
            have E : s_thingIs Z N F thing what = ((F 4) (thing).toNatClampNeg) := (if_neg c0).trans ((if_neg c1).trans ((if_neg c2).trans ((if_neg c3).trans (if_pos c4))))
            rw [E]
            exact ⟨rfl, _, _, _, px_sc.rf, rfl⟩
          · skip
            refine px_PW.at (px_swd_53_15 c1 c2 c3 c4) ?_
            refine px_PW.steps kt_53.2 2 rfl ?_
            refine px_PW.callV kt_53.2 rfl rfl rfl rfl (cc_error hw.2.2.1 1 (by decide)) (by decide) (fun v h1 q => ?_)
            obtain ⟨rfl, rfl⟩ := q
            refine px_PW.ret kt_53.2 rfl rfl ?_
            have E : s_thingIs Z N F thing what = (-1000000000 - 1) := (if_neg c0).trans ((if_neg c1).trans ((if_neg c2).trans ((if_neg c3).trans (if_neg c4))))
            rw [E]
            exact ⟨rfl, _, _, _, px_sc.err, rfl⟩
  · have c0 : thing < 0 ∨ (N 1) ≤ thing := px_b0z (of_decide_eq_true (px_nf c0))
    refine px_PW.steps kt_53.2 2 rfl ?_
    refine px_PW.callV kt_53.2 rfl rfl rfl rfl (cc_error hw.2.2.1 1 (by decide)) (by decide) (fun v h1 q => ?_)
    obtain ⟨rfl, rfl⟩ := q
    refine px_PW.ret kt_53.2 rfl rfl ?_
    have E : s_thingIs Z N F thing what = (-1000000000 - 1) := if_pos c0
    rw [E]
    exact ⟨rfl, _, _, _, px_sc.err, rfl⟩
def s_become (Z N : Nat → Int32) (F : Nat → Nat → Int32) (thing : Int32) (km : Int32) : Int32 × (Nat → Int32) × (Nat → Int32) × (Nat → Nat → Int32) := (if thing < 0 ∨ (N 1) ≤ thing then ((-1000000000 - 1), Z, N, F) else (if km < 0 ∨ 69 < km then ((-1000000000 - 1), Z, N, F) else (((F 1) (thing).toNatClampNeg), Z, N, (va_up (va_up F 1 (upd (F 1) (thing).toNatClampNeg (km / 10))) 2 (upd (F 2) (thing).toNatClampNeg (km - km / 10 * 10))))))
theorem kc_become {Z N : Nat → Int32} {F : Nat → Nat → Int32} (hw : px_cw N) (hT : N 2 = N 1 ∧ N 3 = N 1 ∧ N 4 = N 1) (thing : Int32) (km : Int32) : px_PM 3 54 [.ref 0, .int thing, .int km] (px_CH Z N F, []) (fun r h' => r = some (.int (s_become Z N F thing km).1) ∧ ∃ Z' N' F', px_sc (s_become Z N F thing km).2.1 (s_become Z N F thing km).2.2.1 (s_become Z N F thing km).2.2.2 Z' N' F' ∧ h' = (px_CH Z' N' F', [])) := by
  refine px_PM.start (nL := 4) (code := pc_54) rfl rfl ?_
  refine px_PW.steps kt_54.2 2 rfl ?_
  refine px_PW.callV kt_54.2 rfl rfl rfl rfl (cc_isThing _) (by decide) (fun v h1 q => ?_)
  obtain ⟨rfl, rfl⟩ := q
  refine px_PW.steps kt_54.2 1 rfl ?_
  refine px_PW.br (fun c0 => ?_) (fun c0 => ?_)
  · have c0 : thing < 0 ∨ (N 1) ≤ thing := px_b0z (of_decide_eq_true c0)
    refine px_PW.steps kt_54.2 2 rfl ?_
    refine px_PW.callV kt_54.2 rfl rfl rfl rfl (cc_error hw.2.2.1 1 (by decide)) (by decide) (fun v h1 q => ?_)
    obtain ⟨rfl, rfl⟩ := q
    refine px_PW.ret kt_54.2 rfl rfl ?_
    have E : s_become Z N F thing km = ((-1000000000 - 1), Z, N, F) := if_pos c0
    rw [E]
    exact ⟨rfl, _, _, _, px_sc.err, rfl⟩
  · have c0 : ¬ (thing < 0 ∨ (N 1) ≤ thing) := px_b0n (of_decide_eq_false c0)
    refine px_PW.steps kt_54.2 1 rfl ?_
    refine px_PW.callS kt_54.2 rfl rfl rfl (cc_isKM _ _) (by decide) (fun v h1 q => ?_)
    obtain ⟨rfl, rfl⟩ := q
    refine px_PW.steps kt_54.2 1 rfl ?_
    refine px_PW.br (fun c1 => ?_) (fun c1 => ?_)
    · have c1 : ¬ (km < 0 ∨ 69 < km) := px_b0n (of_decide_eq_false (px_nt c1))
      refine px_PW.steps kt_54.2 4 rfl ?_
      refine px_PW.callV kt_54.2 rfl rfl rfl rfl (nb_getT (q := 1) (by decide) (hw.lim (by decide)) rfl c0) (by decide) (fun v h1 q => ?_)
      obtain ⟨rfl, rfl⟩ := q
      refine px_PW.steps kt_54.2 8 rfl ?_
      refine px_PW.callV kt_54.2 rfl rfl rfl rfl (nb_setT (q := 1) (by decide) (hw.lim (by decide)) rfl c0 _) (by decide) (fun v h1 q => ?_)
      obtain ⟨rfl, rfl⟩ := q
      refine px_PW.steps kt_54.2 7 rfl ?_
      refine px_PW.callV kt_54.2 rfl rfl rfl rfl (nb_setT (q := 2) (by decide) (hw.lim (by decide)) hT.1 c0 _) (by decide) (fun v h1 q => ?_)
      obtain ⟨rfl, rfl⟩ := q
      refine px_PW.steps kt_54.2 1 rfl ?_
      refine px_PW.ret kt_54.2 rfl rfl ?_
      have E : s_become Z N F thing km = (((F 1) (thing).toNatClampNeg), Z, N, (va_up (va_up F 1 (upd (F 1) (thing).toNatClampNeg (km / 10))) 2 (upd (F 2) (thing).toNatClampNeg (km - km / 10 * 10)))) := (if_neg c0).trans (if_neg c1)
      rw [E]
      exact ⟨rfl, _, _, _, px_sc.rf, rfl⟩
    · have c1 : km < 0 ∨ 69 < km := px_b0z (of_decide_eq_true (px_nf c1))
      refine px_PW.steps kt_54.2 2 rfl ?_
      refine px_PW.callV kt_54.2 rfl rfl rfl rfl (cc_error hw.2.2.1 1 (by decide)) (by decide) (fun v h1 q => ?_)
      obtain ⟨rfl, rfl⟩ := q
      refine px_PW.ret kt_54.2 rfl rfl ?_
      have E : s_become Z N F thing km = ((-1000000000 - 1), Z, N, F) := (if_neg c0).trans (if_pos c1)
      rw [E]
      exact ⟨rfl, _, _, _, px_sc.err, rfl⟩
def s_hang (Z N : Nat → Int32) (F : Nat → Nat → Int32) (thing : Int32) (from_ : Int32) : Int32 × (Nat → Int32) × (Nat → Int32) × (Nat → Nat → Int32) := (if thing < 0 ∨ (N 1) ≤ thing then ((-1000000000 - 1), Z, N, F) else (if from_ < 0 ∨ 4000 < from_ then ((-1000000000 - 1), Z, N, F) else (((F 3) (thing).toNatClampNeg), Z, N, (va_up F 3 (upd (F 3) (thing).toNatClampNeg from_)))))
theorem kc_hang {Z N : Nat → Int32} {F : Nat → Nat → Int32} (hw : px_cw N) (hT : N 2 = N 1 ∧ N 3 = N 1 ∧ N 4 = N 1) (thing : Int32) (from_ : Int32) : px_PM 3 56 [.ref 0, .int thing, .int from_] (px_CH Z N F, []) (fun r h' => r = some (.int (s_hang Z N F thing from_).1) ∧ ∃ Z' N' F', px_sc (s_hang Z N F thing from_).2.1 (s_hang Z N F thing from_).2.2.1 (s_hang Z N F thing from_).2.2.2 Z' N' F' ∧ h' = (px_CH Z' N' F', [])) := by
  refine px_PM.start (nL := 4) (code := pc_56) rfl rfl ?_
  refine px_PW.steps kt_56.2 2 rfl ?_
  refine px_PW.callV kt_56.2 rfl rfl rfl rfl (cc_isThing _) (by decide) (fun v h1 q => ?_)
  obtain ⟨rfl, rfl⟩ := q
  refine px_PW.steps kt_56.2 1 rfl ?_
  refine px_PW.br (fun c0 => ?_) (fun c0 => ?_)
  · have c0 : thing < 0 ∨ (N 1) ≤ thing := px_b0z (of_decide_eq_true c0)
    refine px_PW.steps kt_56.2 2 rfl ?_
    refine px_PW.callV kt_56.2 rfl rfl rfl rfl (cc_error hw.2.2.1 1 (by decide)) (by decide) (fun v h1 q => ?_)
    obtain ⟨rfl, rfl⟩ := q
    refine px_PW.ret kt_56.2 rfl rfl ?_
    have E : s_hang Z N F thing from_ = ((-1000000000 - 1), Z, N, F) := if_pos c0
    rw [E]
    exact ⟨rfl, _, _, _, px_sc.err, rfl⟩
  · have c0 : ¬ (thing < 0 ∨ (N 1) ≤ thing) := px_b0n (of_decide_eq_false c0)
    refine px_PW.steps kt_56.2 1 rfl ?_
    refine px_PW.callS kt_56.2 rfl rfl rfl (cc_isFrom _ _) (by decide) (fun v h1 q => ?_)
    obtain ⟨rfl, rfl⟩ := q
    refine px_PW.steps kt_56.2 1 rfl ?_
    refine px_PW.br (fun c1 => ?_) (fun c1 => ?_)
    · have c1 : ¬ (from_ < 0 ∨ 4000 < from_) := px_b0n (of_decide_eq_false (px_nt c1))
      refine px_PW.steps kt_56.2 4 rfl ?_
      refine px_PW.callV kt_56.2 rfl rfl rfl rfl (nb_getT (q := 3) (by decide) (hw.lim (by decide)) hT.2.1 c0) (by decide) (fun v h1 q => ?_)
      obtain ⟨rfl, rfl⟩ := q
      refine px_PW.steps kt_56.2 6 rfl ?_
      refine px_PW.callV kt_56.2 rfl rfl rfl rfl (nb_setT (q := 3) (by decide) (hw.lim (by decide)) hT.2.1 c0 _) (by decide) (fun v h1 q => ?_)
      obtain ⟨rfl, rfl⟩ := q
      refine px_PW.steps kt_56.2 1 rfl ?_
      refine px_PW.ret kt_56.2 rfl rfl ?_
      have E : s_hang Z N F thing from_ = (((F 3) (thing).toNatClampNeg), Z, N, (va_up F 3 (upd (F 3) (thing).toNatClampNeg from_))) := (if_neg c0).trans (if_neg c1)
      rw [E]
      exact ⟨rfl, _, _, _, px_sc.rf, rfl⟩
    · have c1 : from_ < 0 ∨ 4000 < from_ := px_b0z (of_decide_eq_true (px_nf c1))
      refine px_PW.steps kt_56.2 2 rfl ?_
      refine px_PW.callV kt_56.2 rfl rfl rfl rfl (cc_error hw.2.2.1 1 (by decide)) (by decide) (fun v h1 q => ?_)
      obtain ⟨rfl, rfl⟩ := q
      refine px_PW.ret kt_56.2 rfl rfl ?_
      have E : s_hang Z N F thing from_ = ((-1000000000 - 1), Z, N, F) := (if_neg c0).trans (if_pos c1)
      rw [E]
      exact ⟨rfl, _, _, _, px_sc.err, rfl⟩
def s_seed (Z N : Nat → Int32) (F : Nat → Nat → Int32) (v : Int32) : Int32 × (Nat → Int32) × (Nat → Int32) × (Nat → Nat → Int32) := ((Z 0), (upd Z 0 v), N, F)
theorem kc_seed {Z N : Nat → Int32} {F : Nat → Nat → Int32} (hw : px_cw N) (v : Int32) : px_PM 1 66 [.ref 0, .int v] (px_CH Z N F, []) (fun r h' => r = some (.int (s_seed Z N F v).1) ∧ ∃ Z' N' F', px_sc (s_seed Z N F v).2.1 (s_seed Z N F v).2.2.1 (s_seed Z N F v).2.2.2 Z' N' F' ∧ h' = (px_CH Z' N' F', [])) := by
  refine px_PM.start (nL := 3) (code := pc_66) rfl rfl ?_
  refine px_PW.steps kt_66.2 7 rfl ?_
  refine px_op_0 kt_66.2 rfl ?_
  refine px_PW.steps kt_66.2 1 rfl ?_
  refine px_PW.ret kt_66.2 rfl rfl ?_
  have E : s_seed Z N F v = ((Z 0), (upd Z 0 v), N, F) := rfl
  rw [E]
  exact ⟨rfl, _, _, _, px_sc.rf, rfl⟩
def s_body (Z N : Nat → Int32) (F : Nat → Nat → Int32) (i : Int32) : Int32 := (if i < 0 ∨ (N 26) ≤ i then (-1000000000 - 2) else (if i < 0 ∨ (N 26) ≤ i then 0 else (F 26) (i).toNatClampNeg))
theorem kc_body {Z N : Nat → Int32} {F : Nat → Nat → Int32} (hw : px_cw N) (i : Int32) : px_PM 3 74 [.ref 0, .int i] (px_CH Z N F, []) (fun r h' => r = some (.int (s_body Z N F i)) ∧ ∃ Z' N' F', px_sc Z N F Z' N' F' ∧ h' = (px_CH Z' N' F', [])) := by
  refine px_PM.start (nL := 2) (code := pc_74) rfl rfl ?_
  refine px_PW.steps kt_74.2 4 rfl ?_
  refine px_PW.callV kt_74.2 rfl rfl rfl rfl (nb_stands (q := 26) (by decide) _) (by decide) (fun v h1 q => ?_)
  obtain ⟨rfl, rfl⟩ := q
  refine px_PW.steps kt_74.2 1 rfl ?_
  refine px_PW.br (fun c0 => ?_) (fun c0 => ?_)
  · have c0 : i < 0 ∨ (N 26) ≤ i := px_b0z (of_decide_eq_true c0)
    refine px_PW.steps kt_74.2 2 rfl ?_
    refine px_PW.callV kt_74.2 rfl rfl rfl rfl (cc_error hw.2.2.1 2 (by decide)) (by decide) (fun v h1 q => ?_)
    obtain ⟨rfl, rfl⟩ := q
    refine px_PW.ret kt_74.2 rfl rfl ?_
    have E : s_body Z N F i = (-1000000000 - 2) := if_pos c0
    rw [E]
    exact ⟨rfl, _, _, _, px_sc.err, rfl⟩
  · have c0 : ¬ (i < 0 ∨ (N 26) ≤ i) := px_b0n (of_decide_eq_false c0)
    refine px_PW.steps kt_74.2 4 rfl ?_
    refine px_PW.callV kt_74.2 rfl rfl rfl rfl (nb_get (q := 26) (by decide) _ (hw.lim (by decide))) (by decide) (fun v h1 q => ?_)
    obtain ⟨rfl, rfl⟩ := q
    refine px_PW.steps kt_74.2 1 rfl ?_
    refine px_PW.ret kt_74.2 rfl rfl ?_
    have E : s_body Z N F i = (if i < 0 ∨ (N 26) ≤ i then 0 else (F 26) (i).toNatClampNeg) := if_neg c0
    rw [E]
    exact ⟨rfl, _, _, _, px_sc.rf, rfl⟩
def s_told (Z N : Nat → Int32) (F : Nat → Nat → Int32) (k : Int32) : Int32 := (if k < 1 then (-1000000000 - 1) else (if k ≤ 6 then (if k < 0 ∨ (N 18) ≤ k then 0 else (F 18) (k).toNatClampNeg) else (-1000000000 - 1)))
theorem kc_told {Z N : Nat → Int32} {F : Nat → Nat → Int32} (hw : px_cw N) (k : Int32) : px_PM 3 85 [.ref 0, .int k] (px_CH Z N F, []) (fun r h' => r = some (.int (s_told Z N F k)) ∧ ∃ Z' N' F', px_sc Z N F Z' N' F' ∧ h' = (px_CH Z' N' F', [])) := by
  refine px_PM.start (nL := 2) (code := pc_85) rfl rfl ?_
  refine px_PW.steps kt_85.2 3 rfl ?_
  refine px_PW.br (fun c0 => ?_) (fun c0 => ?_)
  · have c0 : k < 1 := of_decide_eq_true c0
    refine px_PW.steps kt_85.2 2 rfl ?_
    refine px_PW.callV kt_85.2 rfl rfl rfl rfl (cc_error hw.2.2.1 1 (by decide)) (by decide) (fun v h1 q => ?_)
    obtain ⟨rfl, rfl⟩ := q
    refine px_PW.steps kt_85.2 1 rfl ?_
    refine px_PW.ret kt_85.2 rfl rfl ?_
    have E : s_told Z N F k = (-1000000000 - 1) := if_pos c0
    rw [E]
    exact ⟨rfl, _, _, _, px_sc.err, rfl⟩
  · have c0 : ¬ (k < 1) := of_decide_eq_false c0
    refine px_PW.steps kt_85.2 3 rfl ?_
    refine px_PW.br (fun c1 => ?_) (fun c1 => ?_)
    · have c1 : k ≤ 6 := of_decide_eq_true c1
      refine px_PW.steps kt_85.2 3 rfl ?_
      refine px_PW.callV kt_85.2 rfl rfl rfl rfl (nb_get (q := 18) (by decide) _ (hw.lim (by decide))) (by decide) (fun v h1 q => ?_)
      obtain ⟨rfl, rfl⟩ := q
      refine px_PW.ret kt_85.2 rfl rfl ?_
      have E : s_told Z N F k = (if k < 0 ∨ (N 18) ≤ k then 0 else (F 18) (k).toNatClampNeg) := (if_neg c0).trans (if_pos c1)
      rw [E]
      exact ⟨rfl, _, _, _, px_sc.rf, rfl⟩
    · have c1 : ¬ (k ≤ 6) := of_decide_eq_false c1
      refine px_PW.steps kt_85.2 2 rfl ?_
      refine px_PW.callV kt_85.2 rfl rfl rfl rfl (cc_error hw.2.2.1 1 (by decide)) (by decide) (fun v h1 q => ?_)
      obtain ⟨rfl, rfl⟩ := q
      refine px_PW.steps kt_85.2 1 rfl ?_
      refine px_PW.ret kt_85.2 rfl rfl ?_
      have E : s_told Z N F k = (-1000000000 - 1) := (if_neg c0).trans (if_neg c1)
      rw [E]
      exact ⟨rfl, _, _, _, px_sc.err, rfl⟩
def s_count (Z N : Nat → Int32) (F : Nat → Nat → Int32) (what : Int32) : Int32 := (if what = 0 then (N 1) else (if what = 1 then ((F 0) 6) else (if what = 2 then (N 5) else (if what = 3 then (N 8) else (if what = 4 then (N 26) else (if what = 5 then (Z 0) else (-1000000000 - 1)))))))
theorem px_swd_84_1 {x : Int32} (c0 : ¬ (x = 0)) (c1 : ¬ (x = 1)) (c2 : ¬ (x = 2)) (c3 : ¬ (x = 3)) (c4 : ¬ (x = 4)) (c5 : ¬ (x = 5)) : px_sw 0 [40, 51, 58, 69, 80, 91] 99 x.toInt = 99 := by
  have d0 : ¬ (x.toInt = 0) := fun h => c0 (px_i_of h (by decide +kernel))
  have d1 : ¬ (x.toInt = 1) := fun h => c1 (px_i_of h (by decide +kernel))
  have d2 : ¬ (x.toInt = 2) := fun h => c2 (px_i_of h (by decide +kernel))
  have d3 : ¬ (x.toInt = 3) := fun h => c3 (px_i_of h (by decide +kernel))
  have d4 : ¬ (x.toInt = 4) := fun h => c4 (px_i_of h (by decide +kernel))
  have d5 : ¬ (x.toInt = 5) := fun h => c5 (px_i_of h (by decide +kernel))
  exact px_sw_d (fun y h1 h2 => by
    have h1 : (0 : Int) ≤ y := h1
    have h2 : y < 6 := h2
    rcases (show y = 0 ∨ y = 1 ∨ y = 2 ∨ y = 3 ∨ y = 4 ∨ y = 5 by omega) with rfl | rfl | rfl | rfl | rfl | rfl
    · exact Or.inl (fun h => d0 h)
    · exact Or.inl (fun h => d1 h)
    · exact Or.inl (fun h => d2 h)
    · exact Or.inl (fun h => d3 h)
    · exact Or.inl (fun h => d4 h)
    · exact Or.inl (fun h => d5 h))
theorem kc_count {Z N : Nat → Int32} {F : Nat → Nat → Int32} (hw : px_cw N) (what : Int32) : px_PM 3 84 [.ref 0, .int what] (px_CH Z N F, []) (fun r h' => r = some (.int (s_count Z N F what)) ∧ ∃ Z' N' F', px_sc Z N F Z' N' F' ∧ h' = (px_CH Z' N' F', [])) := by
  refine px_PM.start (nL := 2) (code := pc_84) rfl rfl ?_
  refine px_PW.steps kt_84.2 2 rfl ?_
  by_cases c0 : what = 0
  · refine px_PW.at (pc' := 40) (by rw [c0]; rfl) ?_
    refine px_PW.steps kt_84.2 3 rfl ?_
    refine px_PW.callV kt_84.2 rfl rfl rfl rfl (nb_size (q := 1) (by decide)) (by decide) (fun v h1 q => ?_)
    obtain ⟨rfl, rfl⟩ := q
    refine px_PW.ret kt_84.2 rfl rfl ?_
    have E : s_count Z N F what = (N 1) := if_pos c0
    rw [E]
    exact ⟨rfl, _, _, _, px_sc.rf, rfl⟩
  · skip
    by_cases c1 : what = 1
    · refine px_PW.at (pc' := 51) (by rw [c1]; rfl) ?_
      refine px_PW.steps kt_84.2 2 rfl ?_
      refine px_PW.callV kt_84.2 rfl rfl rfl rfl (cc_is hw.1 6 (by decide)) (by decide) (fun v h1 q => ?_)
      obtain ⟨rfl, rfl⟩ := q
      refine px_PW.ret kt_84.2 rfl rfl ?_
      have E : s_count Z N F what = ((F 0) 6) := (if_neg c0).trans (if_pos c1)
      rw [E]
      exact ⟨rfl, _, _, _, px_sc.rf, rfl⟩
    · skip
      by_cases c2 : what = 2
      · refine px_PW.at (pc' := 58) (by rw [c2]; rfl) ?_
        refine px_PW.steps kt_84.2 3 rfl ?_
        refine px_PW.callV kt_84.2 rfl rfl rfl rfl (nb_size (q := 5) (by decide)) (by decide) (fun v h1 q => ?_)
        obtain ⟨rfl, rfl⟩ := q
        refine px_PW.ret kt_84.2 rfl rfl ?_
        have E : s_count Z N F what = (N 5) := (if_neg c0).trans ((if_neg c1).trans (if_pos c2))
        rw [E]
        exact ⟨rfl, _, _, _, px_sc.rf, rfl⟩
      · skip
        by_cases c3 : what = 3
        · refine px_PW.at (pc' := 69) (by rw [c3]; rfl) ?_
          refine px_PW.steps kt_84.2 3 rfl ?_
          refine px_PW.callV kt_84.2 rfl rfl rfl rfl (nb_size (q := 8) (by decide)) (by decide) (fun v h1 q => ?_)
          obtain ⟨rfl, rfl⟩ := q
          refine px_PW.ret kt_84.2 rfl rfl ?_
          have E : s_count Z N F what = (N 8) := (if_neg c0).trans ((if_neg c1).trans ((if_neg c2).trans (if_pos c3)))
          rw [E]
          exact ⟨rfl, _, _, _, px_sc.rf, rfl⟩
        · skip
          by_cases c4 : what = 4
          · refine px_PW.at (pc' := 80) (by rw [c4]; rfl) ?_
            refine px_PW.steps kt_84.2 3 rfl ?_
            refine px_PW.callV kt_84.2 rfl rfl rfl rfl (nb_size (q := 26) (by decide)) (by decide) (fun v h1 q => ?_)
            obtain ⟨rfl, rfl⟩ := q
            refine px_PW.ret kt_84.2 rfl rfl ?_
            have E : s_count Z N F what = (N 26) := (if_neg c0).trans ((if_neg c1).trans ((if_neg c2).trans ((if_neg c3).trans (if_pos c4))))
            rw [E]
            exact ⟨rfl, _, _, _, px_sc.rf, rfl⟩
          · skip
            by_cases c5 : what = 5
            · refine px_PW.at (pc' := 91) (by rw [c5]; rfl) ?_
              refine px_PW.steps kt_84.2 3 rfl ?_
              refine px_PW.ret kt_84.2 rfl rfl ?_
              have E : s_count Z N F what = (Z 0) := (if_neg c0).trans ((if_neg c1).trans ((if_neg c2).trans ((if_neg c3).trans ((if_neg c4).trans (if_pos c5)))))
              rw [E]
              exact ⟨rfl, _, _, _, px_sc.rf, rfl⟩
            · skip
              refine px_PW.at (px_swd_84_1 c0 c1 c2 c3 c4 c5) ?_
              refine px_PW.steps kt_84.2 2 rfl ?_
              refine px_PW.callV kt_84.2 rfl rfl rfl rfl (cc_error hw.2.2.1 1 (by decide)) (by decide) (fun v h1 q => ?_)
              obtain ⟨rfl, rfl⟩ := q
              refine px_PW.ret kt_84.2 rfl rfl ?_
              have E : s_count Z N F what = (-1000000000 - 1) := (if_neg c0).trans ((if_neg c1).trans ((if_neg c2).trans ((if_neg c3).trans ((if_neg c4).trans (if_neg c5)))))
              rw [E]
              exact ⟨rfl, _, _, _, px_sc.err, rfl⟩
