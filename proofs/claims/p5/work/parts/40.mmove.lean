theorem px_ix3 (k a t : Nat) : 24 * nI k + nI a + nI t = nI (24 * k + a + t) := by
  rw [show (24 : Int32) = nI 24 from rfl, zz_mul, nI_add, nI_add]
theorem m_mv1_loop {Z : Nat → Int32} {F : Nat → Nat → Int32} {k k2 a b n : Nat} (hk : k < 4) (hk2 : k2 < 4) (ha : a + n ≤ 24) (hb : b + n ≤ 24) {Q : Option Value → px_H → Prop} : ∀ (m t : Nat), t + m = n → px_PW 2 pc_197 Q 149 [some (.ref 1000), some (.int (nI k)), some (.int (nI a)), some (.int (nI k2)), some (.int (nI b)), some (.int (nI n)), some (.int (nI n))] [] ([], px_MH Z (va_up F 14 (zz_pl (fun t => F 13 (24 * k + a + t)) (F 14) 0 n))) → px_PW 2 pc_197 Q 115 [some (.ref 1000), some (.int (nI k)), some (.int (nI a)), some (.int (nI k2)), some (.int (nI b)), some (.int (nI n)), some (.int (nI t))] [] ([], px_MH Z (va_up F 14 (zz_pl (fun t => F 13 (24 * k + a + t)) (F 14) 0 t)))
  | m, t, ht, H => by
    refine px_PW.steps kt_197.2 3 rfl ?_
    refine px_PW.br (fun c0 => ?_) (fun c0 => ?_)
    · have c0 : (nI n) ≤ (nI t) := of_decide_eq_true c0
      have c0 : n ≤ t := (nI_leI (a := n) (b := t) (by omega) (by omega)).mp c0
      obtain rfl : m = 0 := by omega
      obtain rfl : t = n := by omega
      exact H
    · have c0 : ¬ ((nI n) ≤ (nI t)) := of_decide_eq_false c0
      have c0 : ¬ (n ≤ t) := fun q => c0 ((nI_leI (a := n) (b := t) (by omega) (by omega)).mpr q)
      obtain ⟨m2, rfl⟩ : ∃ m2, m = m2 + 1 := ⟨m - 1, by omega⟩
      refine px_PW.steps kt_197.2 12 rfl ?_
      refine px_PW.aldN kt_197.2 rfl rfl (n := 24 * k + a + t) (px_ix3 k a t) (by omega) ?_
      refine ms_14 kt_197.2 rfl (n := t) rfl (by omega) ?_
      refine px_PW.steps kt_197.2 2 rfl ?_
      have g := m_mv1_loop hk hk2 ha hb (Z := Z) (F := F) (b := b) (Q := Q) m2 (t + 1) (by omega) H
      have e2 : (va_up F 14 (zz_pl (fun t => F 13 (24 * k + a + t)) (F 14) 0 (t + 1))) = (va_up (va_up F 14 (zz_pl (fun t => F 13 (24 * k + a + t)) (F 14) 0 t)) 14 (upd (zz_pl (fun t => F 13 (24 * k + a + t)) (F 14) 0 t) t (F 13 (24 * k + a + t)))) := by rw [px_up_up, ← zz_pl_s0]
      rw [e2, nI_succ t] at g
      exact g
theorem m_mv2_loop {Z : Nat → Int32} {G : Nat → Nat → Int32} {k k2 a b n : Nat} (hk : k < 4) (hk2 : k2 < 4) (ha : a + n ≤ 24) (hb : b + n ≤ 24) {Q : Option Value → px_H → Prop} : ∀ (m t : Nat), t + m = n → px_PW 2 pc_197 Q 187 [some (.ref 1000), some (.int (nI k)), some (.int (nI a)), some (.int (nI k2)), some (.int (nI b)), some (.int (nI n)), some (.int (nI n))] [] ([], px_MH Z (va_up G 13 (zz_pl (G 14) (G 13) (24 * k2 + b) n))) → px_PW 2 pc_197 Q 152 [some (.ref 1000), some (.int (nI k)), some (.int (nI a)), some (.int (nI k2)), some (.int (nI b)), some (.int (nI n)), some (.int (nI t))] [] ([], px_MH Z (va_up G 13 (zz_pl (G 14) (G 13) (24 * k2 + b) t)))
  | m, t, ht, H => by
    refine px_PW.steps kt_197.2 3 rfl ?_
    refine px_PW.br (fun c0 => ?_) (fun c0 => ?_)
    · have c0 : (nI n) ≤ (nI t) := of_decide_eq_true c0
      have c0 : n ≤ t := (nI_leI (a := n) (b := t) (by omega) (by omega)).mp c0
      obtain rfl : m = 0 := by omega
      obtain rfl : t = n := by omega
      exact H
    · have c0 : ¬ ((nI n) ≤ (nI t)) := of_decide_eq_false c0
      have c0 : ¬ (n ≤ t) := fun q => c0 ((nI_leI (a := n) (b := t) (by omega) (by omega)).mpr q)
      obtain ⟨m2, rfl⟩ : ∃ m2, m = m2 + 1 := ⟨m - 1, by omega⟩
      refine px_PW.steps kt_197.2 12 rfl ?_
      refine px_PW.aldN kt_197.2 rfl rfl (n := t) rfl (by omega) ?_
      refine ms_13 kt_197.2 rfl (n := 24 * k2 + b + t) (px_ix3 k2 b t) (by omega) ?_
      refine px_PW.steps kt_197.2 2 rfl ?_
      have g := m_mv2_loop hk hk2 ha hb (Z := Z) (G := G) (a := a) (Q := Q) m2 (t + 1) (by omega) H
      have e2 : (va_up G 13 (zz_pl (G 14) (G 13) (24 * k2 + b) (t + 1))) = (va_up (va_up G 13 (zz_pl (G 14) (G 13) (24 * k2 + b) t)) 13 (upd (zz_pl (G 14) (G 13) (24 * k2 + b) t) (24 * k2 + b + t) (G 14 t))) := by rw [px_up_up, ← zz_pl_s]
      rw [e2, nI_succ t] at g
      exact g
theorem px_mvok {i j n x y : Int32} {S S2 : Nat} (hS : x = nI S) (hS2 : y = nI S2) (hS24 : S ≤ 24) (hS224 : S2 ≤ 24) (c0 : ¬ (n < 0)) (c1 : ¬ (i < 0)) (c2 : ¬ (j < 0)) (c3 : ¬ (x - n < i)) (c4 : j ≤ y - n) : (i = nI i.toNatClampNeg ∧ j = nI j.toNatClampNeg ∧ n = nI n.toNatClampNeg) ∧ i.toNatClampNeg + n.toNatClampNeg ≤ S ∧ j.toNatClampNeg + n.toNatClampNeg ≤ S2 := by
  obtain ⟨nn, hn, rfl⟩ := nI_of c0
  obtain ⟨a, ha, rfl⟩ := nI_of c1
  obtain ⟨b, hb, rfl⟩ := nI_of c2
  subst hS hS2
  rw [nI_clamp hn, nI_clamp ha, nI_clamp hb]
  have key : ∀ S a : Nat, S ≤ 24 → a < 2 ^ 31 → nI a ≤ nI S - nI nn → a + nn ≤ S := by
    intro S a hS ha h
    have e : (nI S - nI nn).toInt = (S : Int) - nn := by
      rw [Int32.toInt_sub, nI_toInt (by omega), nI_toInt hn]
      exact Int.bmod_eq_of_le (by omega) (by omega)
    rw [Int32.le_iff_toInt_le, e, nI_toInt ha] at h
    omega
  exact ⟨⟨rfl, rfl, rfl⟩, key S a hS24 ha (Int32.not_lt.mp c3), key S2 b hS224 hb c4⟩
def s_mmove (Z : Nat → Int32) (F : Nat → Nat → Int32) (k : Nat) (i : Int32) (k2 : Nat) (j : Int32) (n : Int32) : Int32 × (Nat → Int32) × (Nat → Nat → Int32) := (if ((F 11) k) = 0 then ((-1000000000 - 2), Z, F) else (if ((F 11) k2) = 0 then ((-1000000000 - 2), Z, F) else (if ((F 11) k) = ((F 11) k2) then (if n < 0 then ((-1000000000 - 1), Z, F) else (if i < 0 then ((-1000000000 - 1), Z, F) else (if j < 0 then ((-1000000000 - 1), Z, F) else (if (((F 12) k) - n) < i then ((-1000000000 - 1), Z, F) else (if j ≤ (((F 12) k2) - n) then ((nI n.toNatClampNeg), Z, (va_up (va_up F 14 (zz_pl (fun t => F 13 (24 * k + i.toNatClampNeg + t)) (F 14) 0 n.toNatClampNeg)) 13 (zz_pl ((va_up F 14 (zz_pl (fun t => F 13 (24 * k + i.toNatClampNeg + t)) (F 14) 0 n.toNatClampNeg)) 14) ((va_up F 14 (zz_pl (fun t => F 13 (24 * k + i.toNatClampNeg + t)) (F 14) 0 n.toNatClampNeg)) 13) (24 * k2 + j.toNatClampNeg) n.toNatClampNeg))) else ((-1000000000 - 1), Z, F)))))) else ((-1000000000 - 5), Z, F))))
theorem kc_mmove {Z : Nat → Int32} {F : Nat → Nat → Int32}  (k : Nat) (i : Int32) (k2 : Nat) (j : Int32) (n : Int32) (hk : k < 4) (hk2 : k2 < 4) {S S2 : Nat} (hS : F 12 k = nI S) (hS2 : F 12 k2 = nI S2) (hS24 : S ≤ 24) (hS224 : S2 ≤ 24) : px_PM 3 197 [.ref 1000, .int (nI k), .int i, .int (nI k2), .int j, .int n] ([], px_MH Z F) (fun r h' => r = some (.int (s_mmove Z F k i k2 j n).1) ∧ ∃ Z' F', px_sm (s_mmove Z F k i k2 j n).2.1 (s_mmove Z F k i k2 j n).2.2 Z' F' ∧ h' = ([], px_MH Z' F')) := by
  refine px_PM.start (nL := 7) (code := pc_197) rfl rfl ?_
  refine px_PW.steps kt_197.2 1 rfl ?_
  refine px_PW.callS kt_197.2 rfl rfl rfl (mm_isSheet _ _) (by decide) (fun v h1 q => ?_)
  obtain ⟨rfl, rfl⟩ := q
  refine px_PW.steps kt_197.2 1 rfl ?_
  refine px_PW.br (fun c0 => ?_) (fun c0 => ?_)
  · have c0 : ¬ (0 ≤ (nI k) ∧ (nI k) ≤ 3) := px_b1z (of_decide_eq_true c0)
    exact absurd (px_sh_ok hk) c0
  · have c0 : 0 ≤ (nI k) ∧ (nI k) ≤ 3 := px_b1n (of_decide_eq_false c0)
    refine px_PW.steps kt_197.2 1 rfl ?_
    refine px_PW.callS kt_197.2 rfl rfl rfl (mm_isSheet _ _) (by decide) (fun v h1 q => ?_)
    obtain ⟨rfl, rfl⟩ := q
    refine px_PW.steps kt_197.2 1 rfl ?_
    refine px_PW.br (fun c1 => ?_) (fun c1 => ?_)
    · have c1 : 0 ≤ (nI k2) ∧ (nI k2) ≤ 3 := px_b1n (of_decide_eq_false (px_nt c1))
      refine px_PW.steps kt_197.2 3 rfl ?_
      refine px_PW.aldN kt_197.2 rfl rfl (n := k) rfl hk ?_
      refine px_PW.steps kt_197.2 1 rfl ?_
      refine px_PW.br (fun c2 => ?_) (fun c2 => ?_)
      · have c2 : ((F 11) k) = 0 := of_decide_eq_true c2
        refine px_PW.steps kt_197.2 2 rfl ?_
        refine px_PW.callV kt_197.2 rfl rfl rfl rfl (mm_error 2 (by decide)) (by decide) (fun v h1 q => ?_)
        obtain ⟨rfl, rfl⟩ := q
        refine px_PW.ret kt_197.2 rfl rfl ?_
        have E : s_mmove Z F k i k2 j n = ((-1000000000 - 2), Z, F) := if_pos c2
        rw [E]
        exact ⟨rfl, _, _, px_sm.err, rfl⟩
      · have c2 : ¬ (((F 11) k) = 0) := of_decide_eq_false c2
        refine px_PW.steps kt_197.2 3 rfl ?_
        refine px_PW.aldN kt_197.2 rfl rfl (n := k2) rfl hk2 ?_
        refine px_PW.steps kt_197.2 1 rfl ?_
        refine px_PW.br (fun c3 => ?_) (fun c3 => ?_)
        · have c3 : ¬ (((F 11) k2) = 0) := of_decide_eq_false (px_nt c3)
          refine px_PW.steps kt_197.2 3 rfl ?_
          refine px_PW.aldN kt_197.2 rfl rfl (n := k) rfl hk ?_
          refine px_PW.steps kt_197.2 3 rfl ?_
          refine px_PW.aldN kt_197.2 rfl rfl (n := k2) rfl hk2 ?_
          refine px_PW.steps kt_197.2 1 rfl ?_
          refine px_PW.br (fun c4 => ?_) (fun c4 => ?_)
          · have c4 : ((F 11) k) = ((F 11) k2) := of_decide_eq_true c4
            refine px_PW.steps kt_197.2 2 rfl ?_
            refine px_PW.br (fun c5 => ?_) (fun c5 => ?_)
            · have c5 : n < 0 := of_decide_eq_true c5
              refine px_PW.steps kt_197.2 2 rfl ?_
              refine px_PW.callV kt_197.2 rfl rfl rfl rfl (mm_error 1 (by decide)) (by decide) (fun v h1 q => ?_)
              obtain ⟨rfl, rfl⟩ := q
              refine px_PW.ret kt_197.2 rfl rfl ?_
              have E : s_mmove Z F k i k2 j n = ((-1000000000 - 1), Z, F) := (if_neg c2).trans ((if_neg c3).trans ((if_pos c4).trans (if_pos c5)))
              rw [E]
              exact ⟨rfl, _, _, px_sm.err, rfl⟩
            · have c5 : ¬ (n < 0) := of_decide_eq_false c5
              refine px_PW.steps kt_197.2 2 rfl ?_
              refine px_PW.br (fun c6 => ?_) (fun c6 => ?_)
              · have c6 : i < 0 := of_decide_eq_true c6
                refine px_PW.steps kt_197.2 2 rfl ?_
                refine px_PW.callV kt_197.2 rfl rfl rfl rfl (mm_error 1 (by decide)) (by decide) (fun v h1 q => ?_)
                obtain ⟨rfl, rfl⟩ := q
                refine px_PW.ret kt_197.2 rfl rfl ?_
                have E : s_mmove Z F k i k2 j n = ((-1000000000 - 1), Z, F) := (if_neg c2).trans ((if_neg c3).trans ((if_pos c4).trans ((if_neg c5).trans (if_pos c6))))
                rw [E]
                exact ⟨rfl, _, _, px_sm.err, rfl⟩
              · have c6 : ¬ (i < 0) := of_decide_eq_false c6
                refine px_PW.steps kt_197.2 2 rfl ?_
                refine px_PW.br (fun c7 => ?_) (fun c7 => ?_)
                · have c7 : j < 0 := of_decide_eq_true c7
                  refine px_PW.steps kt_197.2 2 rfl ?_
                  refine px_PW.callV kt_197.2 rfl rfl rfl rfl (mm_error 1 (by decide)) (by decide) (fun v h1 q => ?_)
                  obtain ⟨rfl, rfl⟩ := q
                  refine px_PW.ret kt_197.2 rfl rfl ?_
                  have E : s_mmove Z F k i k2 j n = ((-1000000000 - 1), Z, F) := (if_neg c2).trans ((if_neg c3).trans ((if_pos c4).trans ((if_neg c5).trans ((if_neg c6).trans (if_pos c7)))))
                  rw [E]
                  exact ⟨rfl, _, _, px_sm.err, rfl⟩
                · have c7 : ¬ (j < 0) := of_decide_eq_false c7
                  refine px_PW.steps kt_197.2 4 rfl ?_
                  refine px_PW.aldN kt_197.2 rfl rfl (n := k) rfl hk ?_
                  refine px_PW.steps kt_197.2 3 rfl ?_
                  refine px_PW.br (fun c8 => ?_) (fun c8 => ?_)
                  · have c8 : (((F 12) k) - n) < i := of_decide_eq_true c8
                    refine px_PW.steps kt_197.2 2 rfl ?_
                    refine px_PW.callV kt_197.2 rfl rfl rfl rfl (mm_error 1 (by decide)) (by decide) (fun v h1 q => ?_)
                    obtain ⟨rfl, rfl⟩ := q
                    refine px_PW.ret kt_197.2 rfl rfl ?_
                    have E : s_mmove Z F k i k2 j n = ((-1000000000 - 1), Z, F) := (if_neg c2).trans ((if_neg c3).trans ((if_pos c4).trans ((if_neg c5).trans ((if_neg c6).trans ((if_neg c7).trans (if_pos c8))))))
                    rw [E]
                    exact ⟨rfl, _, _, px_sm.err, rfl⟩
                  · have c8 : ¬ ((((F 12) k) - n) < i) := of_decide_eq_false c8
                    refine px_PW.steps kt_197.2 4 rfl ?_
                    refine px_PW.aldN kt_197.2 rfl rfl (n := k2) rfl hk2 ?_
                    refine px_PW.steps kt_197.2 3 rfl ?_
                    refine px_PW.br (fun c9 => ?_) (fun c9 => ?_)
                    · have c9 : j ≤ (((F 12) k2) - n) := of_decide_eq_true c9
                      refine px_PW.steps kt_197.2 2 rfl ?_
                      have hm := px_mvok hS hS2 hS24 hS224 c5 c6 c7 c8 c9
                      refine px_PW.lc (lv' := [some (.ref 1000), some (.int (nI k)), some (.int (nI i.toNatClampNeg)), some (.int (nI k2)), some (.int (nI j.toNatClampNeg)), some (.int (nI n.toNatClampNeg)), some (.int (nI 0))]) (by rw [← hm.1.1, ← hm.1.2.1, ← hm.1.2.2]; rfl) ?_
                      refine px_PW.hp (h' := ([], px_MH Z (va_up F 14 (zz_pl (fun t => F 13 (24 * k + i.toNatClampNeg + t)) (F 14) 0 0)))) (by rw [zz_pl_0, px_up_id]) ?_
                      refine m_mv1_loop hk hk2 (a := i.toNatClampNeg) (b := j.toNatClampNeg) (n := n.toNatClampNeg) (by omega) (by omega) n.toNatClampNeg 0 (by omega) ?_
                      refine px_PW.steps kt_197.2 2 rfl ?_
                      refine px_PW.hp (h' := ([], px_MH Z (va_up (va_up F 14 (zz_pl (fun t => F 13 (24 * k + i.toNatClampNeg + t)) (F 14) 0 n.toNatClampNeg)) 13 (zz_pl ((va_up F 14 (zz_pl (fun t => F 13 (24 * k + i.toNatClampNeg + t)) (F 14) 0 n.toNatClampNeg)) 14) ((va_up F 14 (zz_pl (fun t => F 13 (24 * k + i.toNatClampNeg + t)) (F 14) 0 n.toNatClampNeg)) 13) (24 * k2 + j.toNatClampNeg) 0)))) (by rw [zz_pl_0, px_up_id]) ?_
                      refine m_mv2_loop hk hk2 (a := i.toNatClampNeg) (b := j.toNatClampNeg) (n := n.toNatClampNeg) (by omega) (by omega) n.toNatClampNeg 0 (by omega) ?_
                      refine px_PW.steps kt_197.2 1 rfl ?_
                      refine px_PW.ret kt_197.2 rfl rfl ?_
                      have E : s_mmove Z F k i k2 j n = ((nI n.toNatClampNeg), Z, (va_up (va_up F 14 (zz_pl (fun t => F 13 (24 * k + i.toNatClampNeg + t)) (F 14) 0 n.toNatClampNeg)) 13 (zz_pl ((va_up F 14 (zz_pl (fun t => F 13 (24 * k + i.toNatClampNeg + t)) (F 14) 0 n.toNatClampNeg)) 14) ((va_up F 14 (zz_pl (fun t => F 13 (24 * k + i.toNatClampNeg + t)) (F 14) 0 n.toNatClampNeg)) 13) (24 * k2 + j.toNatClampNeg) n.toNatClampNeg))) := (if_neg c2).trans ((if_neg c3).trans ((if_pos c4).trans ((if_neg c5).trans ((if_neg c6).trans ((if_neg c7).trans ((if_neg c8).trans (if_pos c9)))))))
                      rw [E]
                      exact ⟨rfl, _, _, px_sm.rf, rfl⟩
                    · have c9 : ¬ (j ≤ (((F 12) k2) - n)) := of_decide_eq_false c9
                      refine px_PW.steps kt_197.2 2 rfl ?_
                      refine px_PW.callV kt_197.2 rfl rfl rfl rfl (mm_error 1 (by decide)) (by decide) (fun v h1 q => ?_)
                      obtain ⟨rfl, rfl⟩ := q
                      refine px_PW.ret kt_197.2 rfl rfl ?_
                      have E : s_mmove Z F k i k2 j n = ((-1000000000 - 1), Z, F) := (if_neg c2).trans ((if_neg c3).trans ((if_pos c4).trans ((if_neg c5).trans ((if_neg c6).trans ((if_neg c7).trans ((if_neg c8).trans (if_neg c9)))))))
                      rw [E]
                      exact ⟨rfl, _, _, px_sm.err, rfl⟩
          · have c4 : ¬ (((F 11) k) = ((F 11) k2)) := of_decide_eq_false c4
            refine px_PW.steps kt_197.2 2 rfl ?_
            refine px_PW.callV kt_197.2 rfl rfl rfl rfl (mm_error 5 (by decide)) (by decide) (fun v h1 q => ?_)
            obtain ⟨rfl, rfl⟩ := q
            refine px_PW.ret kt_197.2 rfl rfl ?_
            have E : s_mmove Z F k i k2 j n = ((-1000000000 - 5), Z, F) := (if_neg c2).trans ((if_neg c3).trans (if_neg c4))
            rw [E]
            exact ⟨rfl, _, _, px_sm.err, rfl⟩
        · have c3 : ((F 11) k2) = 0 := of_decide_eq_true (px_nf c3)
          refine px_PW.steps kt_197.2 2 rfl ?_
          refine px_PW.callV kt_197.2 rfl rfl rfl rfl (mm_error 2 (by decide)) (by decide) (fun v h1 q => ?_)
          obtain ⟨rfl, rfl⟩ := q
          refine px_PW.ret kt_197.2 rfl rfl ?_
          have E : s_mmove Z F k i k2 j n = ((-1000000000 - 2), Z, F) := (if_neg c2).trans (if_pos c3)
          rw [E]
          exact ⟨rfl, _, _, px_sm.err, rfl⟩
    · have c1 : ¬ (0 ≤ (nI k2) ∧ (nI k2) ≤ 3) := px_b1z (of_decide_eq_true (px_nf c1))
      exact absurd (px_sh_ok hk2) c1
def s_mmoveB1 (Z : Nat → Int32) (F : Nat → Nat → Int32) (sheet : Int32) (i : Int32) (k2 : Nat) (j : Int32) (n : Int32) : Int32 × (Nat → Int32) × (Nat → Nat → Int32) := ((-1000000000 - 1), Z, F)
theorem kc_mmoveB1 {Z : Nat → Int32} {F : Nat → Nat → Int32}  (sheet : Int32) (i : Int32) (k2 : Nat) (j : Int32) (n : Int32) (hb : sheet < 0 ∨ 4 ≤ sheet) (hk2 : k2 < 4) : px_PM 3 197 [.ref 1000, .int sheet, .int i, .int (nI k2), .int j, .int n] ([], px_MH Z F) (fun r h' => r = some (.int (s_mmoveB1 Z F sheet i k2 j n).1) ∧ ∃ Z' F', px_sm (s_mmoveB1 Z F sheet i k2 j n).2.1 (s_mmoveB1 Z F sheet i k2 j n).2.2 Z' F' ∧ h' = ([], px_MH Z' F')) := by
  refine px_PM.start (nL := 7) (code := pc_197) rfl rfl ?_
  refine px_PW.steps kt_197.2 1 rfl ?_
  refine px_PW.callS kt_197.2 rfl rfl rfl (mm_isSheet _ _) (by decide) (fun v h1 q => ?_)
  obtain ⟨rfl, rfl⟩ := q
  refine px_PW.steps kt_197.2 1 rfl ?_
  refine px_PW.br (fun c0 => ?_) (fun c0 => ?_)
  · have c0 : ¬ (0 ≤ sheet ∧ sheet ≤ 3) := px_b1z (of_decide_eq_true c0)
    refine px_PW.steps kt_197.2 2 rfl ?_
    refine px_PW.callV kt_197.2 rfl rfl rfl rfl (mm_error 1 (by decide)) (by decide) (fun v h1 q => ?_)
    obtain ⟨rfl, rfl⟩ := q
    refine px_PW.ret kt_197.2 rfl rfl ?_
    have E : s_mmoveB1 Z F sheet i k2 j n = ((-1000000000 - 1), Z, F) := rfl
    rw [E]
    exact ⟨rfl, _, _, px_sm.err, rfl⟩
  · have c0 : 0 ≤ sheet ∧ sheet ≤ 3 := px_b1n (of_decide_eq_false c0)
    exact absurd c0 (px_sh_no hb)
def s_mmoveB2 (Z : Nat → Int32) (F : Nat → Nat → Int32) (k : Nat) (i : Int32) (other : Int32) (j : Int32) (n : Int32) : Int32 × (Nat → Int32) × (Nat → Nat → Int32) := ((-1000000000 - 1), Z, F)
theorem kc_mmoveB2 {Z : Nat → Int32} {F : Nat → Nat → Int32}  (k : Nat) (i : Int32) (other : Int32) (j : Int32) (n : Int32) (hk : k < 4) (hb2 : other < 0 ∨ 4 ≤ other) : px_PM 3 197 [.ref 1000, .int (nI k), .int i, .int other, .int j, .int n] ([], px_MH Z F) (fun r h' => r = some (.int (s_mmoveB2 Z F k i other j n).1) ∧ ∃ Z' F', px_sm (s_mmoveB2 Z F k i other j n).2.1 (s_mmoveB2 Z F k i other j n).2.2 Z' F' ∧ h' = ([], px_MH Z' F')) := by
  refine px_PM.start (nL := 7) (code := pc_197) rfl rfl ?_
  refine px_PW.steps kt_197.2 1 rfl ?_
  refine px_PW.callS kt_197.2 rfl rfl rfl (mm_isSheet _ _) (by decide) (fun v h1 q => ?_)
  obtain ⟨rfl, rfl⟩ := q
  refine px_PW.steps kt_197.2 1 rfl ?_
  refine px_PW.br (fun c0 => ?_) (fun c0 => ?_)
  · have c0 : ¬ (0 ≤ (nI k) ∧ (nI k) ≤ 3) := px_b1z (of_decide_eq_true c0)
    exact absurd (px_sh_ok hk) c0
  · have c0 : 0 ≤ (nI k) ∧ (nI k) ≤ 3 := px_b1n (of_decide_eq_false c0)
    refine px_PW.steps kt_197.2 1 rfl ?_
    refine px_PW.callS kt_197.2 rfl rfl rfl (mm_isSheet _ _) (by decide) (fun v h1 q => ?_)
    obtain ⟨rfl, rfl⟩ := q
    refine px_PW.steps kt_197.2 1 rfl ?_
    refine px_PW.br (fun c1 => ?_) (fun c1 => ?_)
    · have c1 : 0 ≤ other ∧ other ≤ 3 := px_b1n (of_decide_eq_false (px_nt c1))
      exact absurd c1 (px_sh_no hb2)
    · have c1 : ¬ (0 ≤ other ∧ other ≤ 3) := px_b1z (of_decide_eq_true (px_nf c1))
      refine px_PW.steps kt_197.2 2 rfl ?_
      refine px_PW.callV kt_197.2 rfl rfl rfl rfl (mm_error 1 (by decide)) (by decide) (fun v h1 q => ?_)
      obtain ⟨rfl, rfl⟩ := q
      refine px_PW.ret kt_197.2 rfl rfl ?_
      have E : s_mmoveB2 Z F k i other j n = ((-1000000000 - 1), Z, F) := rfl
      rw [E]
      exact ⟨rfl, _, _, px_sm.err, rfl⟩
def s_mmoveB3 (Z : Nat → Int32) (F : Nat → Nat → Int32) (sheet : Int32) (i : Int32) (other : Int32) (j : Int32) (n : Int32) : Int32 × (Nat → Int32) × (Nat → Nat → Int32) := ((-1000000000 - 1), Z, F)
theorem kc_mmoveB3 {Z : Nat → Int32} {F : Nat → Nat → Int32}  (sheet : Int32) (i : Int32) (other : Int32) (j : Int32) (n : Int32) (hb : sheet < 0 ∨ 4 ≤ sheet) (hb2 : other < 0 ∨ 4 ≤ other) : px_PM 3 197 [.ref 1000, .int sheet, .int i, .int other, .int j, .int n] ([], px_MH Z F) (fun r h' => r = some (.int (s_mmoveB3 Z F sheet i other j n).1) ∧ ∃ Z' F', px_sm (s_mmoveB3 Z F sheet i other j n).2.1 (s_mmoveB3 Z F sheet i other j n).2.2 Z' F' ∧ h' = ([], px_MH Z' F')) := by
  refine px_PM.start (nL := 7) (code := pc_197) rfl rfl ?_
  refine px_PW.steps kt_197.2 1 rfl ?_
  refine px_PW.callS kt_197.2 rfl rfl rfl (mm_isSheet _ _) (by decide) (fun v h1 q => ?_)
  obtain ⟨rfl, rfl⟩ := q
  refine px_PW.steps kt_197.2 1 rfl ?_
  refine px_PW.br (fun c0 => ?_) (fun c0 => ?_)
  · have c0 : ¬ (0 ≤ sheet ∧ sheet ≤ 3) := px_b1z (of_decide_eq_true c0)
    refine px_PW.steps kt_197.2 2 rfl ?_
    refine px_PW.callV kt_197.2 rfl rfl rfl rfl (mm_error 1 (by decide)) (by decide) (fun v h1 q => ?_)
    obtain ⟨rfl, rfl⟩ := q
    refine px_PW.ret kt_197.2 rfl rfl ?_
    have E : s_mmoveB3 Z F sheet i other j n = ((-1000000000 - 1), Z, F) := rfl
    rw [E]
    exact ⟨rfl, _, _, px_sm.err, rfl⟩
  · have c0 : 0 ≤ sheet ∧ sheet ≤ 3 := px_b1n (of_decide_eq_false c0)
    exact absurd c0 (px_sh_no hb)
def zz_fr (g f : Nat → Int32) (n : Nat) : Nat → Int32 := fun j => if 12 ≤ j ∧ j < 12 + 4 * n ∧ (j - 12) % 4 = 2 then g ((j - 12) / 4) else f j
theorem zz_fr_0 (g f : Nat → Int32) : zz_fr g f 0 = f := by
  funext j
  unfold zz_fr
  rw [if_neg (by omega)]
theorem zz_fr_s (g f : Nat → Int32) (n : Nat) : upd (zz_fr g f n) (12 + 4 * n + 2) (g n) = zz_fr g f (n + 1) := by
  funext j
  unfold zz_fr upd
  by_cases h : j = 12 + 4 * n + 2
  · subst h
    rw [if_pos rfl, if_pos (by omega), show (12 + 4 * n + 2 - 12) / 4 = n by omega]
  · rw [if_neg h]
    show (if 12 ≤ j ∧ j < 12 + 4 * n ∧ (j - 12) % 4 = 2 then g ((j - 12) / 4) else f j) = _
    by_cases h2 : 12 ≤ j ∧ j < 12 + 4 * n ∧ (j - 12) % 4 = 2
    · rw [if_pos h2, if_pos (by omega)]
    · rw [if_neg h2, if_neg (by omega)]
theorem zz_fr_lo (g f : Nat → Int32) (n : Nat) {j : Nat} (h : j < 12) : zz_fr g f n j = f j := by
  unfold zz_fr
  rw [if_neg (by omega)]
def s_mplp (F : Nat → Nat → Int32) (k j : Nat) : Bool := decide (0 ≤ F 13 (24 * k + j) ∧ F 13 (24 * k + j) ≤ 4000)
theorem px_pred {j M : Nat} (h : j < M) (hM : M < 1000) : nI j ≤ nI M - 1 := by
  obtain ⟨m, rfl⟩ : ∃ m, M = m + 1 := ⟨M - 1, by omega⟩
  rw [nI_pred]
  exact nI_le (by omega) (by omega)
theorem m_pl_loop {Z : Nat → Int32} {F : Nat → Nat → Int32} {k S M : Nat} (hk : k < 4) (hS : F 12 k = nI S) (hS24 : S ≤ 24) (hM : F 0 10 = nI M) (hM6 : M ≤ 6) {B : Nat} (hB : B = min S M) {Q : Option Value → px_H → Prop} {w2 : Int32} : ∀ (m j : Nat), j + m = B → (px_PW 3 pc_199 Q 80 [some (.ref 1000), some (.int (nI k)), some (.int w2), some (.int (nI (zz_run (s_mplp F k) m j)))] [] ([], px_MH Z (va_up F 0 (zz_fr (fun t => F 13 (24 * k + t)) (F 0) (zz_run (s_mplp F k) m j))))) → px_PW 3 pc_199 Q 18 [some (.ref 1000), some (.int (nI k)), some (.int w2), some (.int (nI j))] [] ([], px_MH Z (va_up F 0 (zz_fr (fun t => F 13 (24 * k + t)) (F 0) j)))
  | m, j, hj, H => by
    refine px_PW.steps kt_199.2 4 rfl ?_
    refine px_PW.aldN kt_199.2 rfl rfl (n := k) rfl hk ?_
    rw [show va_up F 0 (zz_fr (fun t => F 13 (24 * k + t)) (F 0) j) 12 k = nI S from hS]
    refine px_PW.steps kt_199.2 1 rfl ?_
    refine px_PW.br (fun c0 => ?_) (fun c0 => ?_)
    · have c0 : (nI S) ≤ (nI j) := of_decide_eq_true c0
      have c0 : S ≤ j := (nI_leI (a := S) (b := j) (by omega) (by omega)).mp c0
      obtain rfl : m = 0 := by omega
      exact H
    · have c0 : ¬ ((nI S) ≤ (nI j)) := of_decide_eq_false c0
      have c0 : ¬ (S ≤ j) := fun q => c0 ((nI_leI (a := S) (b := j) (by omega) (by omega)).mpr q)
      refine px_PW.steps kt_199.2 2 rfl ?_
      refine px_PW.callV kt_199.2 rfl rfl rfl rfl (mm_isThing _) (by decide) (fun v h1 q => ?_)
      obtain ⟨rfl, rfl⟩ := q
      rw [show va_up F 0 (zz_fr (fun t => F 13 (24 * k + t)) (F 0) j) 0 10 = nI M from (zz_fr_lo (fun t => F 13 (24 * k + t)) (F 0) j (by decide)).trans hM]
      refine px_PW.steps kt_199.2 1 rfl ?_
      refine px_PW.br (fun c1 => ?_) (fun c1 => ?_)
      · have c1 : ¬ (0 ≤ (nI j) ∧ (nI j) ≤ (nI M) - 1) := px_b1z (of_decide_eq_true c1)
        have c1 : ¬ (j < M) := fun q => c1 ⟨nI_pos' (by omega), px_pred q (by omega)⟩
        obtain rfl : m = 0 := by omega
        exact H
      · have c1 : 0 ≤ (nI j) ∧ (nI j) ≤ (nI M) - 1 := px_b1n (of_decide_eq_false c1)
        have c1 : j < M := by have h := (px_inS (x := nI M) rfl (by omega) c1).2; rw [nI_clamp (by omega)] at h; exact h
        obtain ⟨m2, rfl⟩ : ∃ m2, m = m2 + 1 := ⟨m - 1, by omega⟩
        refine px_PW.steps kt_199.2 7 rfl ?_
        refine px_PW.aldN kt_199.2 rfl rfl (n := 24 * k + j) (px_ixS rfl) (by omega) ?_
        refine px_PW.steps kt_199.2 2 rfl ?_
        refine px_PW.callS kt_199.2 rfl rfl rfl (cm_117 _ _ _ _) (by decide) (fun v h1 q => ?_)
        obtain ⟨rfl, rfl⟩ := q
        refine px_PW.steps kt_199.2 1 rfl ?_
        refine px_PW.br (fun c2 => ?_) (fun c2 => ?_)
        · have c2 : ¬ (0 ≤ (F 13 (24 * k + j)) ∧ (F 13 (24 * k + j)) ≤ 4000) := px_b1z (of_decide_eq_true c2)
          rw [zz_run_n (show ¬ (s_mplp F k j = true) from fun q => c2 (of_decide_eq_true q))] at H
          exact H
        · have c2 : 0 ≤ (F 13 (24 * k + j)) ∧ (F 13 (24 * k + j)) ≤ 4000 := px_b1n (of_decide_eq_false c2)
          refine px_PW.steps kt_199.2 10 rfl ?_
          refine px_PW.aldN kt_199.2 rfl rfl (n := 24 * k + j) (px_ixS rfl) (by omega) ?_
          refine px_PW.callV kt_199.2 rfl rfl rfl rfl (mm_laysC (n := j) (k := 2) rfl rfl (by omega) (by omega) _) (by decide) (fun v h1 q => ?_)
          obtain ⟨rfl, rfl⟩ := q
          refine px_PW.steps kt_199.2 2 rfl ?_
          rw [zz_run_y (show s_mplp F k j = true from decide_eq_true c2)] at H
          have g := m_pl_loop hk hS hS24 hM hM6 hB (Z := Z) (Q := Q) (w2 := w2) m2 (j + 1) (by omega) H
          rw [← zz_fr_s, nI_succ j] at g
          exact g
theorem mm_errorL {Z : Nat → Int32} {F : Nat → Nat → Int32} {k : Nat} (hk : k < 4) (c : ¬ (s_lacks F k = 0)) : px_PM 1 116 [.ref 1000, .int (s_lacks F k)] ([], px_MH Z F) (fun r h' => r = some (.int (-1000000000 - 2)) ∧ h' = ([], px_MH Z (va_up F 2 (upd (F 2) 2 (F 2 2 + 1))))) := by
  have e : s_lacks F k = Int32.ofNat 2 := by
    unfold s_lacks at c ⊢
    split
    · rfl
    · next h => rw [if_neg h] at c; exact absurd rfl c
  rw [e]
  exact mm_error 2 (by decide)
def s_mplaces (S M : Nat) (Z : Nat → Int32) (F : Nat → Nat → Int32) (k : Nat) : Int32 × (Nat → Int32) × (Nat → Nat → Int32) := (if (s_lacks F k) = 0 then ((nI (zz_run (s_mplp F k) (min S M) 0)), Z, (va_up F 0 (zz_fr (fun t => F 13 (24 * k + t)) (F 0) (zz_run (s_mplp F k) (min S M) 0)))) else ((-1000000000 - 2), Z, F))
theorem kc_mplaces {Z : Nat → Int32} {F : Nat → Nat → Int32}  (k : Nat) (hk : k < 4) {S M : Nat} (hS : F 12 k = nI S) (hS24 : S ≤ 24) (hM : F 0 10 = nI M) (hM6 : M ≤ 6) : px_PM 4 199 [.ref 1000, .int (nI k)] ([], px_MH Z F) (fun r h' => r = some (.int (s_mplaces S M Z F k).1) ∧ ∃ Z' F', px_sm (s_mplaces S M Z F k).2.1 (s_mplaces S M Z F k).2.2 Z' F' ∧ h' = ([], px_MH Z' F')) := by
  refine px_PM.start (nL := 4) (code := pc_199) rfl rfl ?_
  refine px_PW.steps kt_199.2 2 rfl ?_
  refine px_PW.callV kt_199.2 rfl rfl rfl rfl (mm_lacks hk) (by decide) (fun v h1 q => ?_)
  obtain ⟨rfl, rfl⟩ := q
  refine px_PW.steps kt_199.2 3 rfl ?_
  refine px_PW.br (fun c0 => ?_) (fun c0 => ?_)
  · have c0 : (s_lacks F k) = 0 := of_decide_eq_true c0
    refine px_PW.steps kt_199.2 2 rfl ?_
    refine px_PW.hp (h' := ([], px_MH Z (va_up F 0 (zz_fr (fun t => F 13 (24 * k + t)) (F 0) 0)))) (by rw [zz_fr_0, px_up_id]) ?_
    refine m_pl_loop hk hS hS24 hM hM6 rfl (min S M) 0 (by omega) ?_
    refine px_PW.steps kt_199.2 1 rfl ?_
    refine px_PW.ret kt_199.2 rfl rfl ?_
    have E : s_mplaces S M Z F k = ((nI (zz_run (s_mplp F k) (min S M) 0)), Z, (va_up F 0 (zz_fr (fun t => F 13 (24 * k + t)) (F 0) (zz_run (s_mplp F k) (min S M) 0)))) := if_pos c0
    rw [E]
    exact ⟨rfl, _, _, px_sm.rf, rfl⟩
  · have c0 : ¬ ((s_lacks F k) = 0) := of_decide_eq_false c0
    refine px_PW.steps kt_199.2 2 rfl ?_
    refine px_PW.callV kt_199.2 rfl rfl rfl rfl (mm_errorL hk c0) (by decide) (fun v h1 q => ?_)
    obtain ⟨rfl, rfl⟩ := q
    refine px_PW.ret kt_199.2 rfl rfl ?_
    have E : s_mplaces S M Z F k = ((-1000000000 - 2), Z, F) := if_neg c0
    rw [E]
    exact ⟨rfl, _, _, px_sm.err, rfl⟩
def s_mplacesB (Z : Nat → Int32) (F : Nat → Nat → Int32) (sheet : Int32) : Int32 × (Nat → Int32) × (Nat → Nat → Int32) := ((-1000000000 - 1), Z, F)
theorem kc_mplacesB {Z : Nat → Int32} {F : Nat → Nat → Int32}  (sheet : Int32) (hb : sheet < 0 ∨ 4 ≤ sheet) : px_PM 4 199 [.ref 1000, .int sheet] ([], px_MH Z F) (fun r h' => r = some (.int (s_mplacesB Z F sheet).1) ∧ ∃ Z' F', px_sm (s_mplacesB Z F sheet).2.1 (s_mplacesB Z F sheet).2.2 Z' F' ∧ h' = ([], px_MH Z' F')) := by
  refine px_PM.start (nL := 4) (code := pc_199) rfl rfl ?_
  refine px_PW.steps kt_199.2 2 rfl ?_
  refine px_PW.callV kt_199.2 rfl rfl rfl rfl (mm_lacksB hb) (by decide) (fun v h1 q => ?_)
  obtain ⟨rfl, rfl⟩ := q
  refine px_PW.steps kt_199.2 3 rfl ?_
  refine px_PW.br (fun c0 => ?_) (fun c0 => ?_)
  · have c0 : (1 : Int32) = 0 := of_decide_eq_true c0
    exact absurd c0 (by decide)
  · have c0 : ¬ ((1 : Int32) = 0) := of_decide_eq_false c0
    refine px_PW.steps kt_199.2 2 rfl ?_
    refine px_PW.callV kt_199.2 rfl rfl rfl rfl (mm_error 1 (by decide)) (by decide) (fun v h1 q => ?_)
    obtain ⟨rfl, rfl⟩ := q
    refine px_PW.ret kt_199.2 rfl rfl ?_
    have E : s_mplacesB Z F sheet = ((-1000000000 - 1), Z, F) := rfl
    rw [E]
    exact ⟨rfl, _, _, px_sm.err, rfl⟩
def s_mckp (M : Nat) (f : Nat → Int32) (j : Nat) : Bool := decide (j < M) && decide (f (346 + j) = f (12 + 4 * j + 2))
theorem m_ck_loop {Z f : Nat → Int32} {F : Nat → Nat → Int32} {M W : Nat} (hM : f 10 = nI M) (hM6 : M ≤ 6) (hW24 : W ≤ 24) {Q : Option Value → px_H → Prop} : ∀ (m k : Nat), k + m = W → Q (some (.int (s_ckr W (zz_run (s_mckp M f) m k)))) ([], px_MH Z (va_up F 0 f)) → px_PW 2 pc_204 Q 18 [some (.ref 1000), some (.int (nI W)), some (.int (nI k))] [] ([], px_MH Z (va_up F 0 f))
  | m, k, hk, H => by
    refine px_PW.steps kt_204.2 3 rfl ?_
    refine px_PW.br (fun c0 => ?_) (fun c0 => ?_)
    · have c0 : (nI W) ≤ (nI k) := of_decide_eq_true c0
      have c0 : W ≤ k := (nI_leI (a := W) (b := k) (by omega) (by omega)).mp c0
      obtain rfl : m = 0 := by omega
      refine px_PW.steps kt_204.2 1 rfl ?_
      refine px_PW.ret kt_204.2 rfl rfl ?_
      have e : s_ckr W (zz_run (s_mckp M f) 0 k) = 0 := if_pos (by unfold zz_run; omega)
      rw [e] at H
      exact H
    · have c0 : ¬ ((nI W) ≤ (nI k)) := of_decide_eq_false c0
      have c0 : ¬ (W ≤ k) := fun q => c0 ((nI_leI (a := W) (b := k) (by omega) (by omega)).mpr q)
      obtain ⟨m2, rfl⟩ : ∃ m2, m = m2 + 1 := ⟨m - 1, by omega⟩
      refine px_PW.steps kt_204.2 2 rfl ?_
      refine px_PW.callV kt_204.2 rfl rfl rfl rfl (mm_isThing _) (by decide) (fun v h1 q => ?_)
      obtain ⟨rfl, rfl⟩ := q
      rw [show va_up F 0 f 0 10 = nI M from hM]
      refine px_PW.steps kt_204.2 1 rfl ?_
      refine px_PW.br (fun c1 => ?_) (fun c1 => ?_)
      · have c1 : ¬ (0 ≤ (nI k) ∧ (nI k) ≤ (nI M) - 1) := px_b1z (of_decide_eq_true c1)
        have c1 : ¬ (k < M) := fun q => c1 ⟨nI_pos' (by omega), px_pred q (by omega)⟩
        refine px_PW.steps kt_204.2 3 rfl ?_
        refine px_PW.ret kt_204.2 rfl rfl ?_
        rw [zz_run_n (show ¬ (s_mckp M f k = true) by unfold s_mckp; rw [decide_eq_false c1]; exact Bool.noConfusion)] at H
        have e : s_ckr W k = 1 + nI k := if_neg (by omega)
        rw [e] at H
        exact H
      · have c1 : 0 ≤ (nI k) ∧ (nI k) ≤ (nI M) - 1 := px_b1n (of_decide_eq_false c1)
        have c1 : k < M := by have h := (px_inS (x := nI M) rfl (by omega) c1).2; rw [nI_clamp (by omega)] at h; exact h
        refine px_PW.steps kt_204.2 5 rfl ?_
        refine px_PW.aldN kt_204.2 rfl rfl (n := 346 + k) (nI_add 346 k) (by omega) ?_
        refine px_PW.steps kt_204.2 3 rfl ?_
        refine px_PW.callV kt_204.2 rfl rfl rfl rfl (mm_its (n := k) (k := 2) rfl rfl (by omega) (by omega)) (by decide) (fun v h1 q => ?_)
        obtain ⟨rfl, rfl⟩ := q
        refine px_PW.steps kt_204.2 1 rfl ?_
        refine px_PW.br (fun c2 => ?_) (fun c2 => ?_)
        · have c2 : (f (346 + k)) = (f (12 + 4 * k + 2)) := of_decide_eq_true c2
          refine px_PW.steps kt_204.2 2 rfl ?_
          rw [zz_run_y (show s_mckp M f k = true by unfold s_mckp; rw [decide_eq_true c1, decide_eq_true c2]; rfl)] at H
          have g := m_ck_loop hM hM6 hW24 (Z := Z) (F := F) (Q := Q) m2 (k + 1) (by omega) H
          rw [nI_succ k] at g
          exact g
        · have c2 : ¬ ((f (346 + k)) = (f (12 + 4 * k + 2))) := of_decide_eq_false c2
          refine px_PW.steps kt_204.2 3 rfl ?_
          refine px_PW.ret kt_204.2 rfl rfl ?_
          rw [zz_run_n (show ¬ (s_mckp M f k = true) by unfold s_mckp; rw [decide_eq_false c2, Bool.and_false]; exact Bool.noConfusion)] at H
          have e : s_ckr W k = 1 + nI k := if_neg (by omega)
          rw [e] at H
          exact H
theorem kc_mcheck {Z : Nat → Int32} {F : Nat → Nat → Int32} {M W : Nat} (hM : F 0 10 = nI M) (hM6 : M ≤ 6) (hW : F 0 9 = nI W) (hW24 : W ≤ 24) : px_PM 3 204 [.ref 1000] ([], px_MH Z F) (fun r h' => r = some (.int (s_ckr W (zz_run (s_mckp M (upd (F 0) 9 0)) W 0))) ∧ h' = ([], px_MH Z (va_up F 0 (upd (F 0) 9 0)))) := by
  refine px_PM.start (nL := 3) (code := pc_204) rfl rfl ?_
  refine px_PW.steps kt_204.2 9 rfl ?_
  refine ms_0 kt_204.2 rfl (n := 9) rfl (by decide) ?_
  refine px_PW.steps kt_204.2 2 rfl ?_
  refine px_PW.lc (lv' := [some (.ref 1000), some (.int (nI W)), some (.int (nI 0))]) (by rw [← hW]; rfl) ?_
  refine m_ck_loop (f := upd (F 0) 9 0) hM hM6 hW24 W 0 (by omega) ?_
  exact ⟨rfl, rfl⟩
