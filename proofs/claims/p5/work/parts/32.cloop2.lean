/-- the first of m places from k on of which p holds -/
def zz_find (p : Nat → Bool) : Nat → Nat → Option Nat
  | 0, _ => none
  | m + 1, k => if p k = true then some k else zz_find p m (k + 1)
/-- from k on, as long as p holds, m places at most: where it ends -/
def zz_run (p : Nat → Bool) : Nat → Nat → Nat
  | 0, k => k
  | m + 1, k => if p k = true then zz_run p m (k + 1) else k
theorem zz_find_y {p : Nat → Bool} {m k : Nat} (h : p k = true) : zz_find p (m + 1) k = some k := if_pos h
theorem zz_find_n {p : Nat → Bool} {m k : Nat} (h : ¬ (p k = true)) : zz_find p (m + 1) k = zz_find p m (k + 1) := if_neg h
theorem zz_run_y {p : Nat → Bool} {m k : Nat} (h : p k = true) : zz_run p (m + 1) k = zz_run p m (k + 1) := if_pos h
theorem zz_run_n {p : Nat → Bool} {m k : Nat} (h : ¬ (p k = true)) : zz_run p (m + 1) k = k := if_neg h
theorem zz_run_le (p : Nat → Bool) : ∀ (m k : Nat), k ≤ zz_run p m k ∧ zz_run p m k ≤ k + m
  | 0, k => ⟨Nat.le_refl _, Nat.le_refl _⟩
  | m + 1, k => by
    unfold zz_run
    split
    · have h := zz_run_le p m (k + 1); omega
    · omega
theorem zz_run_lt (p : Nat → Bool) : ∀ (m k j : Nat), k ≤ j → j < zz_run p m k → p j = true
  | 0, k, j, h1, h2 => by unfold zz_run at h2; omega
  | m + 1, k, j, h1, h2 => by
    unfold zz_run at h2
    split at h2
    · next c =>
      rcases Nat.eq_or_lt_of_le h1 with e | e
      · rw [← e]; exact c
      · exact zz_run_lt p m (k + 1) j e h2
    · omega
theorem zz_run_congr {p q : Nat → Bool} : ∀ (m k : Nat), (∀ j : Nat, k ≤ j → j < k + m → p j = q j) → zz_run p m k = zz_run q m k
  | 0, _, _ => rfl
  | m + 1, k, h => by
    unfold zz_run
    rw [h k (Nat.le_refl k) (by omega), zz_run_congr m (k + 1) (fun j h1 h2 => h j (by omega) (by omega))]
theorem zz_find_congr {p q : Nat → Bool} : ∀ (m k : Nat), (∀ j : Nat, k ≤ j → j < k + m → p j = q j) → zz_find p m k = zz_find q m k
  | 0, _, _ => rfl
  | m + 1, k, h => by
    unfold zz_find
    rw [h k (Nat.le_refl k) (by omega), zz_find_congr m (k + 1) (fun j h1 h2 => h j (by omega) (by omega))]
theorem zz_find_lt {p : Nat → Bool} : ∀ (m k j : Nat), zz_find p m k = some j → k ≤ j ∧ j < k + m ∧ p j = true
  | 0, _, _, h => by cases h
  | m + 1, k, j, h => by
    unfold zz_find at h
    split at h
    · next c => cases h; exact ⟨Nat.le_refl _, by omega, c⟩
    · have g := zz_find_lt m (k + 1) j h
      exact ⟨by omega, by omega, g.2.2⟩
def s_chp (F : Nat → Nat → Int32) (j : Nat) : Bool := decide (i_rem (F 0 0 + nI j) (F 0 1 + nI j) = 0)
def s_cheatE (F : Nat → Nat → Int32) (what : Int32) (x : Option Nat) : Int32 := match x with
  | some j => if what = 0 then nI j else i_quo (F 0 0 + nI j) (F 0 1 + nI j)
  | none => -1000000000 - 2
def s_cheat (F : Nat → Nat → Int32) (what : Int32) : Int32 := if what < 0 then -1000000000 - 1 else if what ≤ 1 then s_cheatE F what (zz_find (s_chp F) 10 0) else -1000000000 - 1
theorem c_cheat_loop {Z N : Nat → Int32} {F : Nat → Nat → Int32} (hw : px_cw N) {what : Int32} {Q : Option Value → px_H → Prop} : ∀ (m k : Nat) (o3 o4 : Option Value), k + m = 10 → (∀ j : Nat, zz_find (s_chp F) m k = some j → px_PW 2 pc_69 Q 49 [some (.ref 0), some (.int what), some (.int (nI j)), some (.int (F 0 0 + nI j)), some (.int (F 0 1 + nI j))] [] (px_CH Z N F, [])) → (zz_find (s_chp F) m k = none → ∀ o3 o4 : Option Value, px_PW 2 pc_69 Q 70 [some (.ref 0), some (.int what), some (.int (nI 10)), o3, o4] [] (px_CH Z N F, [])) → px_PW 2 pc_69 Q 17 [some (.ref 0), some (.int what), some (.int (nI k)), o3, o4] [] (px_CH Z N F, [])
  | m, k, o3, o4, hk, HF, HE => by
    refine px_PW.steps kt_69.2 3 rfl ?_
    refine px_PW.br (fun c0 => ?_) (fun c0 => ?_)
    · have c0 : 9 < (nI k) := of_decide_eq_true c0
      have c0 : 9 < k := (nI_ltI (a := 9) (b := k) (by omega) (by omega)).mp c0
      obtain rfl : m = 0 := by omega
      obtain rfl : k = 10 := by omega
      exact HE rfl _ _
    · have c0 : ¬ (9 < (nI k)) := of_decide_eq_false c0
      have c0 : ¬ (9 < k) := fun q => c0 ((nI_ltI (a := 9) (b := k) (by omega) (by omega)).mpr q)
      obtain ⟨m2, rfl⟩ : ∃ m2, m = m2 + 1 := ⟨m - 1, by omega⟩
      refine px_PW.steps kt_69.2 2 rfl ?_
      refine px_PW.callV kt_69.2 rfl rfl rfl rfl (cc_is (N := N) hw.1 0 (by decide)) (by decide) (fun v h1 q => ?_)
      obtain ⟨rfl, rfl⟩ := q
      refine px_PW.steps kt_69.2 5 rfl ?_
      refine px_PW.callV kt_69.2 rfl rfl rfl rfl (cc_is (N := N) hw.1 1 (by decide)) (by decide) (fun v h1 q => ?_)
      obtain ⟨rfl, rfl⟩ := q
      refine px_PW.steps kt_69.2 5 rfl ?_
      refine px_PW.callS kt_69.2 rfl rfl rfl (cc_rest _ _ _) (by decide) (fun v h1 q => ?_)
      obtain ⟨rfl, rfl⟩ := q
      refine px_PW.steps kt_69.2 1 rfl ?_
      refine px_PW.br (fun c1 => ?_) (fun c1 => ?_)
      · have c1 : ¬ ((i_rem (((F 0) 0) + (nI k)) (((F 0) 1) + (nI k))) = 0) := of_decide_eq_false (px_nt c1)
        refine px_PW.steps kt_69.2 2 rfl ?_
        have e : ¬ (s_chp F k = true) := fun q => c1 (of_decide_eq_true q)
        have g := c_cheat_loop hw (Q := Q) (what := what) m2 (k + 1) (some (.int (F 0 0 + nI k))) (some (.int (F 0 1 + nI k))) (by omega) (fun j hj => HF j ((zz_find_n e).trans hj)) (fun hj => HE ((zz_find_n e).trans hj))
        rw [nI_succ] at g
        exact g
      · have c1 : (i_rem (((F 0) 0) + (nI k)) (((F 0) 1) + (nI k))) = 0 := of_decide_eq_true (px_nf c1)
        exact HF k (zz_find_y (decide_eq_true c1))
theorem kc_cheat {Z N : Nat → Int32} {F : Nat → Nat → Int32} (hw : px_cw N) (what : Int32) : px_PM 3 69 [.ref 0, .int what] (px_CH Z N F, []) (fun r h' => r = some (.int (s_cheat F what)) ∧ ∃ Z' N' F', px_sc Z N F Z' N' F' ∧ h' = (px_CH Z' N' F', [])) := by
  refine px_PM.start (nL := 5) (code := pc_69) rfl rfl ?_
  refine px_PW.steps kt_69.2 2 rfl ?_
  refine px_PW.br (fun c0 => ?_) (fun c0 => ?_)
  · have c0 : what < 0 := of_decide_eq_true c0
    refine px_PW.steps kt_69.2 2 rfl ?_
    refine px_PW.callV kt_69.2 rfl rfl rfl rfl (cc_error hw.2.2.1 1 (by decide)) (by decide) (fun v h1 q => ?_)
    obtain ⟨rfl, rfl⟩ := q
    refine px_PW.ret kt_69.2 rfl rfl ?_
    have E : s_cheat F what = (-1000000000 - 1) := if_pos c0
    rw [E]
    exact ⟨rfl, _, _, _, px_sc.err, rfl⟩
  · have c0 : ¬ (what < 0) := of_decide_eq_false c0
    refine px_PW.steps kt_69.2 3 rfl ?_
    refine px_PW.br (fun c1 => ?_) (fun c1 => ?_)
    · have c1 : what ≤ 1 := of_decide_eq_true c1
      refine px_PW.steps kt_69.2 2 rfl ?_
      refine c_cheat_loop hw 10 0 none none rfl (fun j hj => ?_) (fun hj o3 o4 => ?_)
      · refine px_PW.steps kt_69.2 2 rfl ?_
        refine px_PW.br (fun c5 => ?_) (fun c5 => ?_)
        · have c5 : ¬ (what = 0) := of_decide_eq_false (px_nt c5)
          refine px_PW.steps kt_69.2 2 rfl ?_
          refine px_PW.callS kt_69.2 rfl rfl rfl (cc_quot _ _ _) (by decide) (fun v h1 q => ?_)
          obtain ⟨rfl, rfl⟩ := q
          refine px_PW.ret kt_69.2 rfl rfl ?_
          have E : s_cheat F what = (i_quo (F 0 0 + nI j) (F 0 1 + nI j)) := (if_neg c0).trans ((if_pos c1).trans (by rw [hj]; exact if_neg c5))
          rw [E]
          exact ⟨rfl, _, _, _, px_sc.rf, rfl⟩
        · have c5 : what = 0 := of_decide_eq_true (px_nf c5)
          refine px_PW.steps kt_69.2 2 rfl ?_
          refine px_PW.ret kt_69.2 rfl rfl ?_
          have E : s_cheat F what = (nI j) := (if_neg c0).trans ((if_pos c1).trans (by rw [hj]; exact if_pos c5))
          rw [E]
          exact ⟨rfl, _, _, _, px_sc.rf, rfl⟩
      · refine px_PW.steps kt_69.2 2 rfl ?_
        refine px_PW.callV kt_69.2 rfl rfl rfl rfl (cc_error hw.2.2.1 2 (by decide)) (by decide) (fun v h1 q => ?_)
        obtain ⟨rfl, rfl⟩ := q
        refine px_PW.ret kt_69.2 rfl rfl ?_
        have E : s_cheat F what = (-1000000000 - 2) := (if_neg c0).trans ((if_pos c1).trans (by rw [hj]; exact rfl))
        rw [E]
        exact ⟨rfl, _, _, _, px_sc.err, rfl⟩
    · have c1 : ¬ (what ≤ 1) := of_decide_eq_false c1
      refine px_PW.steps kt_69.2 2 rfl ?_
      refine px_PW.callV kt_69.2 rfl rfl rfl rfl (cc_error hw.2.2.1 1 (by decide)) (by decide) (fun v h1 q => ?_)
      obtain ⟨rfl, rfl⟩ := q
      refine px_PW.ret kt_69.2 rfl rfl ?_
      have E : s_cheat F what = (-1000000000 - 1) := (if_neg c0).trans (if_neg c1)
      rw [E]
      exact ⟨rfl, _, _, _, px_sc.err, rfl⟩
def s_byte (word : Int64) (i : Nat) : Int32 := (((word).toUInt64 >>> ((8 * nI i).toInt64.toUInt64 &&& Int64.toUInt64 63)).toInt64).toInt32 &&& 255
theorem zz_uu (f : Nat → Int32) (k : Nat) (a b : Int32) : upd (upd f k a) k b = upd f k b := by
  funext j
  unfold upd
  split <;> rfl
theorem zz_ui (f : Nat → Int32) (k : Nat) : upd f k (f k) = f := by
  funext j
  unfold upd
  split
  · next h => rw [h]
  · rfl
theorem px_in8 {n : Int32} {P : Nat} (hP60 : P ≤ 60) (a : ¬ (n < 1)) (b : n ≤ 8) (c : n ≤ nI 60 - nI P) : n = nI n.toNatClampNeg ∧ n.toNatClampNeg ≤ 8 ∧ P + n.toNatClampNeg ≤ 60 := by
  have h0 : ¬ n < 0 := fun q => a (Int32.lt_trans q (by decide))
  obtain ⟨k, hk, rfl⟩ := nI_of h0
  rw [show (8 : Int32) = nI 8 from rfl, nI_leI (by omega) (by omega)] at b
  rw [zz_sub hP60, nI_leI (by omega) (by omega)] at c
  rw [nI_clamp (by omega)]
  exact ⟨rfl, b, by omega⟩
theorem c_feed_loop {Z N : Nat → Int32} {F : Nat → Nat → Int32} {P K : Nat} (hK : P + K ≤ 60) (word : Int64) {Q : Option Value → px_H → Prop} : ∀ (m k : Nat), k + m = K → (px_PW 2 pc_57 Q 74 [some (.ref 0), some (.long word), none, some (.int (nI K)), some (.int (nI K))] [] (px_CH Z (upd N 5 (nI (P + K))) (va_up F 5 (zz_pl (s_byte word) (F 5) P K)), [])) → px_PW 2 pc_57 Q 40 [some (.ref 0), some (.long word), none, some (.int (nI K)), some (.int (nI k))] [] (px_CH Z (upd N 5 (nI (P + k))) (va_up F 5 (zz_pl (s_byte word) (F 5) P k)), [])
  | m, k, hk, H => by
    refine px_PW.steps kt_57.2 3 rfl ?_
    refine px_PW.br (fun c0 => ?_) (fun c0 => ?_)
    · have c0 : (nI K) ≤ (nI k) := of_decide_eq_true c0
      have c0 : K ≤ k := by exact (nI_leI (a := K) (b := k) (by omega) (by omega)).mp c0
      obtain rfl : m = 0 := by omega
      obtain rfl : k = K := by omega
      exact H
    · have c0 : ¬ ((nI K) ≤ (nI k)) := of_decide_eq_false c0
      have c0 : ¬ (K ≤ k) := fun q => c0 (by exact (nI_leI (a := K) (b := k) (by omega) (by omega)).mpr q)
      obtain ⟨m2, rfl⟩ : ∃ m2, m = m2 + 1 := ⟨m - 1, by omega⟩
      refine px_PW.steps kt_57.2 11 rfl ?_
      refine px_PW.callV kt_57.2 rfl rfl rfl rfl (nb_addN (N := (upd N 5 (nI (P + k)))) (q := 5) (n := P + k) (by decide) rfl (show P + k < 60 by omega) _) (by decide) (fun v h1 q => ?_)
      obtain ⟨rfl, rfl⟩ := q
      refine px_PW.steps kt_57.2 2 rfl ?_
      have g := c_feed_loop hK word (Q := Q) m2 (k + 1) (by omega) H
      have e2 : va_up F 5 (zz_pl (s_byte word) (F 5) P (k + 1)) = (va_up (va_up F 5 (zz_pl (s_byte word) (F 5) P k)) 5 (upd (zz_pl (s_byte word) (F 5) P k) (P + k) (s_byte word k))) := by rw [px_up_up, zz_pl_s]
      have e3 : upd N 5 (nI (P + (k + 1))) = (upd (upd N 5 (nI (P + k))) 5 (nI (P + k + 1))) := by rw [zz_uu]; rfl
      rw [e2, e3, nI_succ k] at g
      exact g
def s_feed (P : Nat) (Z N : Nat → Int32) (F : Nat → Nat → Int32) (word : Int64) (n : Int32) : Int32 × (Nat → Int32) × (Nat → Int32) × (Nat → Nat → Int32) := (if n < 1 then ((-1000000000 - 1), Z, N, F) else (if n ≤ 8 then (if n ≤ (60 - (N 5)) then ((nI (P + n.toNatClampNeg)), Z, (upd N 5 (nI (P + n.toNatClampNeg))), (va_up F 5 (zz_pl (s_byte word) (F 5) P n.toNatClampNeg))) else ((-1000000000 - 4), Z, N, F)) else ((-1000000000 - 1), Z, N, F)))
theorem kc_feed {Z N : Nat → Int32} {F : Nat → Nat → Int32} (hw : px_cw N) {P : Nat} (hP : N 5 = nI P) (hP60 : P ≤ 60) (word : Int64) (n : Int32) : px_PM 3 57 [.ref 0, .long word, .int n] (px_CH Z N F, []) (fun r h' => r = some (.int (s_feed P Z N F word n).1) ∧ ∃ Z' N' F', px_sc (s_feed P Z N F word n).2.1 (s_feed P Z N F word n).2.2.1 (s_feed P Z N F word n).2.2.2 Z' N' F' ∧ h' = (px_CH Z' N' F', [])) := by
  refine px_PM.start (nL := 5) (code := pc_57) rfl rfl ?_
  refine px_PW.steps kt_57.2 3 rfl ?_
  refine px_PW.br (fun c0 => ?_) (fun c0 => ?_)
  · have c0 : n < 1 := of_decide_eq_true c0
    refine px_PW.steps kt_57.2 2 rfl ?_
    refine px_PW.callV kt_57.2 rfl rfl rfl rfl (cc_error hw.2.2.1 1 (by decide)) (by decide) (fun v h1 q => ?_)
    obtain ⟨rfl, rfl⟩ := q
    refine px_PW.ret kt_57.2 rfl rfl ?_
    have E : s_feed P Z N F word n = ((-1000000000 - 1), Z, N, F) := if_pos c0
    rw [E]
    exact ⟨rfl, _, _, _, px_sc.err, rfl⟩
  · have c0 : ¬ (n < 1) := of_decide_eq_false c0
    refine px_PW.steps kt_57.2 3 rfl ?_
    refine px_PW.br (fun c1 => ?_) (fun c1 => ?_)
    · have c1 : n ≤ 8 := of_decide_eq_true c1
      refine px_PW.steps kt_57.2 3 rfl ?_
      refine px_PW.callV kt_57.2 rfl rfl rfl rfl (nb_room (q := 5) (by decide)) (by decide) (fun v h1 q => ?_)
      obtain ⟨rfl, rfl⟩ := q
      refine px_PW.steps kt_57.2 2 rfl ?_
      refine px_PW.br (fun c2 => ?_) (fun c2 => ?_)
      · have c2 : n ≤ (60 - (N 5)) := of_decide_eq_true c2
        refine px_PW.steps kt_57.2 2 rfl ?_
        have hn := px_in8 hP60 c0 c1 (by rw [← hP]; exact c2)
        refine px_PW.lc (lv' := [some (.ref 0), some (.long word), none, some (.int (nI n.toNatClampNeg)), some (.int (nI 0))]) (by rw [← hn.1]; rfl) ?_
        refine px_PW.hp (h' := (px_CH Z (upd N 5 (nI (P + 0))) (va_up F 5 (zz_pl (s_byte word) (F 5) P 0)), [])) (by rw [zz_pl_0, px_up_id, Nat.add_zero, ← hP, zz_ui]) ?_
        refine c_feed_loop hn.2.2 word n.toNatClampNeg 0 (by omega) ?_
        refine px_PW.steps kt_57.2 3 rfl ?_
        refine px_PW.callV kt_57.2 rfl rfl rfl rfl (nb_size (q := 5) (by decide)) (by decide) (fun v h1 q => ?_)
        obtain ⟨rfl, rfl⟩ := q
        refine px_PW.ret kt_57.2 rfl rfl ?_
        have E : s_feed P Z N F word n = ((nI (P + n.toNatClampNeg)), Z, (upd N 5 (nI (P + n.toNatClampNeg))), (va_up F 5 (zz_pl (s_byte word) (F 5) P n.toNatClampNeg))) := (if_neg c0).trans ((if_pos c1).trans (if_pos c2))
        rw [E]
        exact ⟨rfl, _, _, _, px_sc.rf, rfl⟩
      · have c2 : ¬ (n ≤ (60 - (N 5))) := of_decide_eq_false c2
        refine px_PW.steps kt_57.2 2 rfl ?_
        refine px_PW.callV kt_57.2 rfl rfl rfl rfl (cc_error hw.2.2.1 4 (by decide)) (by decide) (fun v h1 q => ?_)
        obtain ⟨rfl, rfl⟩ := q
        refine px_PW.ret kt_57.2 rfl rfl ?_
        have E : s_feed P Z N F word n = ((-1000000000 - 4), Z, N, F) := (if_neg c0).trans ((if_pos c1).trans (if_neg c2))
        rw [E]
        exact ⟨rfl, _, _, _, px_sc.err, rfl⟩
    · have c1 : ¬ (n ≤ 8) := of_decide_eq_false c1
      refine px_PW.steps kt_57.2 2 rfl ?_
      refine px_PW.callV kt_57.2 rfl rfl rfl rfl (cc_error hw.2.2.1 1 (by decide)) (by decide) (fun v h1 q => ?_)
      obtain ⟨rfl, rfl⟩ := q
      refine px_PW.ret kt_57.2 rfl rfl ?_
      have E : s_feed P Z N F word n = ((-1000000000 - 1), Z, N, F) := (if_neg c0).trans (if_neg c1)
      rw [E]
      exact ⟨rfl, _, _, _, px_sc.err, rfl⟩
