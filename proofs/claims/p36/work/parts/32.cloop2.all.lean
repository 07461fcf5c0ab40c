/-! part 32.cloop2 -/
section
/-- the first of m places from k on of which p holds -/
def zz_find (p : Nat → Bool) : Nat → Nat → Option Nat
  | 0, _ => none
  | m + 1, k => if p k = true then some k else zz_find p m (k + 1)
/-- from k on, as long as p holds, m places at most: where it ends -/
def zz_run (p : Nat → Bool) : Nat → Nat → Nat
  | 0, k => k
  | m + 1, k => if p k = true then zz_run p m (k + 1) else k
theorem zz_find_y {p : Nat → Bool} {m k : Nat} (h : p k = true) : zz_find p (m + 1) k = some k := if_pos h
theorem zz_find_n {p : Nat → Bool} {m k : Nat} (h : ¬ (p k = true)) : zz_find p (m + 1) k = zz_find p m (k + 1) := if_neg h
theorem zz_run_y {p : Nat → Bool} {m k : Nat} (h : p k = true) : zz_run p (m + 1) k = zz_run p m (k + 1) := if_pos h
theorem zz_run_n {p : Nat → Bool} {m k : Nat} (h : ¬ (p k = true)) : zz_run p (m + 1) k = k := if_neg h
theorem zz_run_le (p : Nat → Bool) : ∀ (m k : Nat), k ≤ zz_run p m k ∧ zz_run p m k ≤ k + m
  | 0, k => ⟨Nat.le_refl _, Nat.le_refl _⟩
  | m + 1, k => by
    unfold zz_run
    split
    · have h := zz_run_le p m (k + 1); omega
    · omega
theorem zz_run_lt (p : Nat → Bool) : ∀ (m k j : Nat), k ≤ j → j < zz_run p m k → p j = true
  | 0, k, j, h1, h2 => by unfold zz_run at h2; omega
  | m + 1, k, j, h1, h2 => by
    unfold zz_run at h2
    split at h2
    · next c =>
      rcases Nat.eq_or_lt_of_le h1 with e | e
      · rw [← e]; exact c
      · exact zz_run_lt p m (k + 1) j e h2
    · omega
theorem zz_run_congr {p q : Nat → Bool} : ∀ (m k : Nat), (∀ j : Nat, k ≤ j → j < k + m → p j = q j) → zz_run p m k = zz_run q m k
  | 0, _, _ => rfl
  | m + 1, k, h => by
    unfold zz_run
    rw [h k (Nat.le_refl k) (by omega), zz_run_congr m (k + 1) (fun j h1 h2 => h j (by omega) (by omega))]
theorem zz_find_congr {p q : Nat → Bool} : ∀ (m k : Nat), (∀ j : Nat, k ≤ j → j < k + m → p j = q j) → zz_find p m k = zz_find q m k
  | 0, _, _ => rfl
  | m + 1, k, h => by
    unfold zz_find
    rw [h k (Nat.le_refl k) (by omega), zz_find_congr m (k + 1) (fun j h1 h2 => h j (by omega) (by omega))]
theorem zz_find_lt {p : Nat → Bool} : ∀ (m k j : Nat), zz_find p m k = some j → k ≤ j ∧ j < k + m ∧ p j = true
  | 0, _, _, h => by cases h
  | m + 1, k, j, h => by
    unfold zz_find at h
    split at h
    · next c => cases h; exact ⟨Nat.le_refl _, by omega, c⟩
    · have g := zz_find_lt m (k + 1) j h
      exact ⟨by omega, by omega, g.2.2⟩
def s_chp (F : Nat → Nat → Int32) (j : Nat) : Bool := decide (i_rem (F 0 0 + nI j) (F 0 1 + nI j) = 0)
def s_cheatE (F : Nat → Nat → Int32) (what : Int32) (x : Option Nat) : Int32 := match x with
  | some j => if what = 0 then nI j else i_quo (F 0 0 + nI j) (F 0 1 + nI j)
  | none => -1000000000 - 2
def s_cheat (F : Nat → Nat → Int32) (what : Int32) : Int32 := if what < 0 then -1000000000 - 1 else if what ≤ 1 then s_cheatE F what (zz_find (s_chp F) 10 0) else -1000000000 - 1
theorem c_cheat_loop {Z N : Nat → Int32} {F : Nat → Nat → Int32} (hw : px_cw N) {what : Int32} {Q : Option Value → px_H → Prop} : ∀ (m k : Nat) (o3 o4 : Option Value), k + m = 10 → (∀ j : Nat, zz_find (s_chp F) m k = some j → px_PW 2 pc_69 Q 49 [some (.ref 0), some (.int what), some (.int (nI j)), some (.int (F 0 0 + nI j)), some (.int (F 0 1 + nI j))] [] (px_CH Z N F, [])) → (zz_find (s_chp F) m k = none → ∀ o3 o4 : Option Value, px_PW 2 pc_69 Q 70 [some (.ref 0), some (.int what), some (.int (nI 10)), o3, o4] [] (px_CH Z N F, [])) → px_PW 2 pc_69 Q 17 [some (.ref 0), some (.int what), some (.int (nI k)), o3, o4] [] (px_CH Z N F, [])
  | m, k, o3, o4, hk, HF, HE => by
    refine px_PW.steps kt_69.2 3 rfl ?_
    refine px_PW.br (fun c0 => ?_) (fun c0 => ?_)
    · have c0 : 9 < (nI k) := of_decide_eq_true c0
      have c0 : 9 < k := (nI_ltI (a := 9) (b := k) (by omega) (by omega)).mp c0
      obtain rfl : m = 0 := by omega
      obtain rfl : k = 10 := by omega
      exact HE rfl _ _
    · have c0 : ¬ (9 < (nI k)) := of_decide_eq_false c0
      have c0 : ¬ (9 < k) := fun q => c0 ((nI_ltI (a := 9) (b := k) (by omega) (by omega)).mpr q)
      obtain ⟨m2, rfl⟩ : ∃ m2, m = m2 + 1 := ⟨m - 1, by omega⟩
      refine px_PW.steps kt_69.2 2 rfl ?_
      refine px_PW.callV kt_69.2 rfl rfl rfl rfl (cc_is (N := N) hw.1 0 (by decide)) (by decide) (fun v h1 q => ?_)
      obtain ⟨rfl, rfl⟩ := q
      refine px_PW.steps kt_69.2 5 rfl ?_
      refine px_PW.callV kt_69.2 rfl rfl rfl rfl (cc_is (N := N) hw.1 1 (by decide)) (by decide) (fun v h1 q => ?_)
      obtain ⟨rfl, rfl⟩ := q
      refine px_PW.steps kt_69.2 5 rfl ?_
      refine px_PW.callS kt_69.2 rfl rfl rfl (cc_rest _ _ _) (by decide) (fun v h1 q => ?_)
      obtain ⟨rfl, rfl⟩ := q
      refine px_PW.steps kt_69.2 1 rfl ?_
      refine px_PW.br (fun c1 => ?_) (fun c1 => ?_)
      · have c1 : ¬ ((i_rem (((F 0) 0) + (nI k)) (((F 0) 1) + (nI k))) = 0) := of_decide_eq_false (px_nt c1)
        refine px_PW.steps kt_69.2 2 rfl ?_
        have e : ¬ (s_chp F k = true) := fun q => c1 (of_decide_eq_true q)
        have g := c_cheat_loop hw (Q := Q) (what := what) m2 (k + 1) (some (.int (F 0 0 + nI k))) (some (.int (F 0 1 + nI k))) (by omega) (fun j hj => HF j ((zz_find_n e).trans hj)) (fun hj => HE ((zz_find_n e).trans hj))
        rw [nI_succ] at g
        exact g
      · have c1 : (i_rem (((F 0) 0) + (nI k)) (((F 0) 1) + (nI k))) = 0 := of_decide_eq_true (px_nf c1)
        exact HF k (zz_find_y (decide_eq_true c1))
theorem kc_cheat {Z N : Nat → Int32} {F : Nat → Nat → Int32} (hw : px_cw N) (what : Int32) : px_PM 3 69 [.ref 0, .int what] (px_CH Z N F, []) (fun r h' => r = some (.int (s_cheat F what)) ∧ ∃ Z' N' F', px_sc Z N F Z' N' F' ∧ h' = (px_CH Z' N' F', [])) := by
  refine px_PM.start (nL := 5) (code := pc_69) rfl rfl ?_
  refine px_PW.steps kt_69.2 2 rfl ?_
  refine px_PW.br (fun c0 => ?_) (fun c0 => ?_)
  · have c0 : what < 0 := of_decide_eq_true c0
    refine px_PW.steps kt_69.2 2 rfl ?_
    refine px_PW.callV kt_69.2 rfl rfl rfl rfl (cc_error hw.2.2.1 1 (by decide)) (by decide) (fun v h1 q => ?_)
    obtain ⟨rfl, rfl⟩ := q
    refine px_PW.ret kt_69.2 rfl rfl ?_
    have E : s_cheat F what = (-1000000000 - 1) := if_pos c0
    rw [E]
    exact ⟨rfl, _, _, _, px_sc.err, rfl⟩
  · have c0 : ¬ (what < 0) := of_decide_eq_false c0
    refine px_PW.steps kt_69.2 3 rfl ?_
    refine px_PW.br (fun c1 => ?_) (fun c1 => ?_)
    · have c1 : what ≤ 1 := of_decide_eq_true c1
      refine px_PW.steps kt_69.2 2 rfl ?_
      refine c_cheat_loop hw 10 0 none none rfl (fun j hj => ?_) (fun hj o3 o4 => ?_)
      · refine px_PW.steps kt_69.2 2 rfl ?_
        refine px_PW.br (fun c5 => ?_) (fun c5 => ?_)
        · have c5 : ¬ (what = 0) := of_decide_eq_false (px_nt c5)
          refine px_PW.steps kt_69.2 2 rfl ?_
          refine px_PW.callS kt_69.2 rfl rfl rfl (cc_quot _ _ _) (by decide) (fun v h1 q => ?_)
          obtain ⟨rfl, rfl⟩ := q
          refine px_PW.ret kt_69.2 rfl rfl ?_
          have E : s_cheat F what = (i_quo (F 0 0 + nI j) (F 0 1 + nI j)) := (if_neg c0).trans ((if_pos c1).trans (by rw [hj]; exact if_neg c5))
          rw [E]
          exact ⟨rfl, _, _, _, px_sc.rf, rfl⟩
        · have c5 : what = 0 := of_decide_eq_true (px_nf c5)
          refine px_PW.steps kt_69.2 2 rfl ?_
          refine px_PW.ret kt_69.2 rfl rfl ?_
          have E : s_cheat F what = (nI j) := (if_neg c0).trans ((if_pos c1).trans (by rw [hj]; exact if_pos c5))
          rw [E]
          exact ⟨rfl, _, _, _, px_sc.rf, rfl⟩
      · refine px_PW.steps kt_69.2 2 rfl ?_
        refine px_PW.callV kt_69.2 rfl rfl rfl rfl (cc_error hw.2.2.1 2 (by decide)) (by decide) (fun v h1 q => ?_)
        obtain ⟨rfl, rfl⟩ := q
        refine px_PW.ret kt_69.2 rfl rfl ?_
        have E : s_cheat F what = (-1000000000 - 2) := (if_neg c0).trans ((if_pos c1).trans (by rw [hj]; exact rfl))
        rw [E]
        exact ⟨rfl, _, _, _, px_sc.err, rfl⟩
    · have c1 : ¬ (what ≤ 1) := of_decide_eq_false c1
      refine px_PW.steps kt_69.2 2 rfl ?_
      refine px_PW.callV kt_69.2 rfl rfl rfl rfl (cc_error hw.2.2.1 1 (by decide)) (by decide) (fun v h1 q => ?_)
      obtain ⟨rfl, rfl⟩ := q
      refine px_PW.ret kt_69.2 rfl rfl ?_
      have E : s_cheat F what = (-1000000000 - 1) := (if_neg c0).trans (if_neg c1)
      rw [E]
      exact ⟨rfl, _, _, _, px_sc.err, rfl⟩
def s_byte (word : Int64) (i : Nat) : Int32 := (((word).toUInt64 >>> ((8 * nI i).toInt64.toUInt64 &&& Int64.toUInt64 63)).toInt64).toInt32 &&& 255
theorem zz_uu (f : Nat → Int32) (k : Nat) (a b : Int32) : upd (upd f k a) k b = upd f k b := by
  funext j
  unfold upd
  split <;> rfl
theorem zz_ui (f : Nat → Int32) (k : Nat) : upd f k (f k) = f := by
  funext j
  unfold upd
  split
  · next h => rw [h]
  · rfl
theorem px_in8 {n : Int32} {P : Nat} (hP60 : P ≤ 60) (a : ¬ (n < 1)) (b : n ≤ 8) (c : n ≤ nI 60 - nI P) : n = nI n.toNatClampNeg ∧ n.toNatClampNeg ≤ 8 ∧ P + n.toNatClampNeg ≤ 60 := by
  have h0 : ¬ n < 0 := fun q => a (Int32.lt_trans q (by decide))
  obtain ⟨k, hk, rfl⟩ := nI_of h0
  rw [show (8 : Int32) = nI 8 from rfl, nI_leI (by omega) (by omega)] at b
  rw [zz_sub hP60, nI_leI (by omega) (by omega)] at c
  rw [nI_clamp (by omega)]
  exact ⟨rfl, b, by omega⟩
theorem c_feed_loop {Z N : Nat → Int32} {F : Nat → Nat → Int32} {P K : Nat} (hK : P + K ≤ 60) (word : Int64) {Q : Option Value → px_H → Prop} : ∀ (m k : Nat), k + m = K → (px_PW 2 pc_57 Q 74 [some (.ref 0), some (.long word), none, some (.int (nI K)), some (.int (nI K))] [] (px_CH Z (upd N 5 (nI (P + K))) (va_up F 5 (zz_pl (s_byte word) (F 5) P K)), [])) → px_PW 2 pc_57 Q 40 [some (.ref 0), some (.long word), none, some (.int (nI K)), some (.int (nI k))] [] (px_CH Z (upd N 5 (nI (P + k))) (va_up F 5 (zz_pl (s_byte word) (F 5) P k)), [])
  | m, k, hk, H => by
    refine px_PW.steps kt_57.2 3 rfl ?_
    refine px_PW.br (fun c0 => ?_) (fun c0 => ?_)
    · have c0 : (nI K) ≤ (nI k) := of_decide_eq_true c0
      have c0 : K ≤ k := by exact (nI_leI (a := K) (b := k) (by omega) (by omega)).mp c0
      obtain rfl : m = 0 := by omega
      obtain rfl : k = K := by omega
      exact H
    · have c0 : ¬ ((nI K) ≤ (nI k)) := of_decide_eq_false c0
      have c0 : ¬ (K ≤ k) := fun q => c0 (by exact (nI_leI (a := K) (b := k) (by omega) (by omega)).mpr q)
      obtain ⟨m2, rfl⟩ : ∃ m2, m = m2 + 1 := ⟨m - 1, by omega⟩
      refine px_PW.steps kt_57.2 11 rfl ?_
      refine px_PW.callV kt_57.2 rfl rfl rfl rfl (nb_addN (N := (upd N 5 (nI (P + k)))) (q := 5) (n := P + k) (by decide) rfl (show P + k < 60 by omega) _) (by decide) (fun v h1 q => ?_)
      obtain ⟨rfl, rfl⟩ := q
      refine px_PW.steps kt_57.2 2 rfl ?_
      have g := c_feed_loop hK word (Q := Q) m2 (k + 1) (by omega) H
      have e2 : va_up F 5 (zz_pl (s_byte word) (F 5) P (k + 1)) = (va_up (va_up F 5 (zz_pl (s_byte word) (F 5) P k)) 5 (upd (zz_pl (s_byte word) (F 5) P k) (P + k) (s_byte word k))) := by rw [px_up_up, zz_pl_s]
      have e3 : upd N 5 (nI (P + (k + 1))) = (upd (upd N 5 (nI (P + k))) 5 (nI (P + k + 1))) := by rw [zz_uu]; rfl
      rw [e2, e3, nI_succ k] at g
      exact g
def s_feed (P : Nat) (Z N : Nat → Int32) (F : Nat → Nat → Int32) (word : Int64) (n : Int32) : Int32 × (Nat → Int32) × (Nat → Int32) × (Nat → Nat → Int32) := (if n < 1 then ((-1000000000 - 1), Z, N, F) else (if n ≤ 8 then (if n ≤ (60 - (N 5)) then ((nI (P + n.toNatClampNeg)), Z, (upd N 5 (nI (P + n.toNatClampNeg))), (va_up F 5 (zz_pl (s_byte word) (F 5) P n.toNatClampNeg))) else ((-1000000000 - 4), Z, N, F)) else ((-1000000000 - 1), Z, N, F)))
theorem kc_feed {Z N : Nat → Int32} {F : Nat → Nat → Int32} (hw : px_cw N) {P : Nat} (hP : N 5 = nI P) (hP60 : P ≤ 60) (word : Int64) (n : Int32) : px_PM 3 57 [.ref 0, .long word, .int n] (px_CH Z N F, []) (fun r h' => r = some (.int (s_feed P Z N F word n).1) ∧ ∃ Z' N' F', px_sc (s_feed P Z N F word n).2.1 (s_feed P Z N F word n).2.2.1 (s_feed P Z N F word n).2.2.2 Z' N' F' ∧ h' = (px_CH Z' N' F', [])) := by
  refine px_PM.start (nL := 5) (code := pc_57) rfl rfl ?_
  refine px_PW.steps kt_57.2 3 rfl ?_
  refine px_PW.br (fun c0 => ?_) (fun c0 => ?_)
  · have c0 : n < 1 := of_decide_eq_true c0
    refine px_PW.steps kt_57.2 2 rfl ?_
    refine px_PW.callV kt_57.2 rfl rfl rfl rfl (cc_error hw.2.2.1 1 (by decide)) (by decide) (fun v h1 q => ?_)
    obtain ⟨rfl, rfl⟩ := q
    refine px_PW.ret kt_57.2 rfl rfl ?_
    have E : s_feed P Z N F word n = ((-1000000000 - 1), Z, N, F) := if_pos c0
    rw [E]
    exact ⟨rfl, _, _, _, px_sc.err, rfl⟩
  · have c0 : ¬ (n < 1) := of_decide_eq_false c0
    refine px_PW.steps kt_57.2 3 rfl ?_
    refine px_PW.br (fun c1 => ?_) (fun c1 => ?_)
    · have c1 : n ≤ 8 := of_decide_eq_true c1
      refine px_PW.steps kt_57.2 3 rfl ?_
      refine px_PW.callV kt_57.2 rfl rfl rfl rfl (nb_room (q := 5) (by decide)) (by decide) (fun v h1 q => ?_)
      obtain ⟨rfl, rfl⟩ := q
      refine px_PW.steps kt_57.2 2 rfl ?_
      refine px_PW.br (fun c2 => ?_) (fun c2 => ?_)
      · have c2 : n ≤ (60 - (N 5)) := of_decide_eq_true c2
        refine px_PW.steps kt_57.2 2 rfl ?_
        have hn := px_in8 hP60 c0 c1 (by rw [← hP]; exact c2)
        refine px_PW.lc (lv' := [some (.ref 0), some (.long word), none, some (.int (nI n.toNatClampNeg)), some (.int (nI 0))]) (by rw [← hn.1]; rfl) ?_
        refine px_PW.hp (h' := (px_CH Z (upd N 5 (nI (P + 0))) (va_up F 5 (zz_pl (s_byte word) (F 5) P 0)), [])) (by rw [zz_pl_0, px_up_id, Nat.add_zero, ← hP, zz_ui]) ?_
        refine c_feed_loop hn.2.2 word n.toNatClampNeg 0 (by omega) ?_
        refine px_PW.steps kt_57.2 3 rfl ?_
        refine px_PW.callV kt_57.2 rfl rfl rfl rfl (nb_size (q := 5) (by decide)) (by decide) (fun v h1 q => ?_)
        obtain ⟨rfl, rfl⟩ := q
        refine px_PW.ret kt_57.2 rfl rfl ?_
        have E : s_feed P Z N F word n = ((nI (P + n.toNatClampNeg)), Z, (upd N 5 (nI (P + n.toNatClampNeg))), (va_up F 5 (zz_pl (s_byte word) (F 5) P n.toNatClampNeg))) := (if_neg c0).trans ((if_pos c1).trans (if_pos c2))
        rw [E]
        exact ⟨rfl, _, _, _, px_sc.rf, rfl⟩
      · have c2 : ¬ (n ≤ (60 - (N 5))) := of_decide_eq_false c2
        refine px_PW.steps kt_57.2 2 rfl ?_
        refine px_PW.callV kt_57.2 rfl rfl rfl rfl (cc_error hw.2.2.1 4 (by decide)) (by decide) (fun v h1 q => ?_)
        obtain ⟨rfl, rfl⟩ := q
        refine px_PW.ret kt_57.2 rfl rfl ?_
        have E : s_feed P Z N F word n = ((-1000000000 - 4), Z, N, F) := (if_neg c0).trans ((if_pos c1).trans (if_neg c2))
        rw [E]
        exact ⟨rfl, _, _, _, px_sc.err, rfl⟩
    · have c1 : ¬ (n ≤ 8) := of_decide_eq_false c1
      refine px_PW.steps kt_57.2 2 rfl ?_
      refine px_PW.callV kt_57.2 rfl rfl rfl rfl (cc_error hw.2.2.1 1 (by decide)) (by decide) (fun v h1 q => ?_)
      obtain ⟨rfl, rfl⟩ := q
      refine px_PW.ret kt_57.2 rfl rfl ?_
      have E : s_feed P Z N F word n = ((-1000000000 - 1), Z, N, F) := (if_neg c0).trans (if_neg c1)
      rw [E]
      exact ⟨rfl, _, _, _, px_sc.err, rfl⟩
end
/-! part 33.cloop3 -/
section
theorem zz_dec (n : Nat) : nI (n + 1) + -1 = nI n := (Int32.sub_eq_add_neg (nI (n + 1)) 1).symm.trans (nI_pred n)
def s_plp (F : Nat → Nat → Int32) (k j : Nat) : Bool := decide (¬ (F (19 + k) j < 0 ∨ 4000 < F (19 + k) j))
theorem px_lim19 {k : Nat} (hk : k < 4) : px_lim (19 + k) = 24 := by rcases (show k = 0 ∨ k = 1 ∨ k = 2 ∨ k = 3 by omega) with rfl | rfl | rfl | rfl <;> rfl
theorem c_pl_loop {Z N : Nat → Int32} {F : Nat → Nat → Int32} {k S M : Nat} (hk : k < 4) (hS : N (19 + k) = nI S) (hS24 : S ≤ 24) (hM3 : N 3 = nI M) (hM6 : M ≤ 6) {B : Nat} (hB : B = min S M) {Q : Option Value → px_H → Prop} : ∀ (m j : Nat), j + m = B → px_PW 2 pc_78 Q 101 [some (.ref 0), some (.int (nI k)), some (.ref (42 + 3 * k)), some (.int (nI B)), some (.int (nI (zz_run (s_plp F k) m j)))] [] (px_CH Z N (va_up F 3 (zz_pl (F (19 + k)) (F 3) 0 (zz_run (s_plp F k) m j))), []) → px_PW 2 pc_78 Q 53 [some (.ref 0), some (.int (nI k)), some (.ref (42 + 3 * k)), some (.int (nI B)), some (.int (nI j))] [] (px_CH Z N (va_up F 3 (zz_pl (F (19 + k)) (F 3) 0 j)), [])
  | m, j, hj, H => by
    refine px_PW.steps kt_78.2 3 rfl ?_
    refine px_PW.br (fun c0 => ?_) (fun c0 => ?_)
    · have c0 : (nI B) ≤ (nI j) := of_decide_eq_true c0
      have c0 : B ≤ j := (nI_leI (a := B) (b := j) (by omega) (by omega)).mp c0
      obtain rfl : m = 0 := by omega
      exact H
    · have c0 : ¬ ((nI B) ≤ (nI j)) := of_decide_eq_false c0
      have c0 : ¬ (B ≤ j) := fun q => c0 ((nI_leI (a := B) (b := j) (by omega) (by omega)).mpr q)
      obtain ⟨m2, rfl⟩ : ∃ m2, m = m2 + 1 := ⟨m - 1, by omega⟩
      refine px_PW.steps kt_78.2 1 rfl ?_
      refine px_PW.getf kt_78.2 rfl (ch_sh hk) rfl ?_
      refine px_PW.steps kt_78.2 1 rfl ?_
      refine px_PW.callV kt_78.2 rfl rfl (ch_isO (by omega)) rfl (nb_getN (q := 19 + k) (L := S) (by omega) hS (by rw [px_lim19 hk]; exact hS24) (show j < S by omega)) (by decide) (fun v h1 q => ?_)
      obtain ⟨rfl, rfl⟩ := q
      rw [show (va_up F 3 (zz_pl (F (19 + k)) (F 3) 0 j)) (19 + k) = F (19 + k) from px_up_ne F _ (by omega)]
      refine px_PW.callS kt_78.2 rfl rfl rfl (cc_isFrom _ _) (by decide) (fun v h1 q => ?_)
      obtain ⟨rfl, rfl⟩ := q
      refine px_PW.steps kt_78.2 1 rfl ?_
      refine px_PW.br (fun c1 => ?_) (fun c1 => ?_)
      · have c1 : (F (19 + k) j) < 0 ∨ 4000 < (F (19 + k) j) := px_b0z (of_decide_eq_true c1)
        rw [zz_run_n (show ¬ (s_plp F k j = true) from fun q => of_decide_eq_true q c1)] at H
        exact H
      · have c1 : ¬ ((F (19 + k) j) < 0 ∨ 4000 < (F (19 + k) j)) := px_b0n (of_decide_eq_false c1)
        refine px_PW.steps kt_78.2 5 rfl ?_
        refine px_PW.getf kt_78.2 rfl (ch_sh hk) rfl ?_
        refine px_PW.steps kt_78.2 1 rfl ?_
        refine px_PW.callV kt_78.2 rfl rfl (ch_isO (by omega)) rfl (nb_getN (q := 19 + k) (L := S) (by omega) hS (by rw [px_lim19 hk]; exact hS24) (show j < S by omega)) (by decide) (fun v h1 q => ?_)
        obtain ⟨rfl, rfl⟩ := q
        rw [show (va_up F 3 (zz_pl (F (19 + k)) (F 3) 0 j)) (19 + k) = F (19 + k) from px_up_ne F _ (by omega)]
        refine px_PW.callV kt_78.2 rfl rfl rfl rfl (nb_setN (q := 3) (L := M) (by decide) hM3 (show M ≤ px_lim 3 from hM6) (show j < M by omega) _) (by decide) (fun v h1 q => ?_)
        obtain ⟨rfl, rfl⟩ := q
        refine px_PW.steps kt_78.2 2 rfl ?_
        rw [zz_run_y (show s_plp F k j = true from decide_eq_true c1)] at H
        have g := c_pl_loop hk hS hS24 hM3 hM6 hB (Q := Q) (Z := Z) m2 (j + 1) (by omega) H
        have e2 : (va_up F 3 (zz_pl (F (19 + k)) (F 3) 0 (j + 1))) = (va_up (va_up F 3 (zz_pl (F (19 + k)) (F 3) 0 j)) 3 (upd (zz_pl (F (19 + k)) (F 3) 0 j) j (F (19 + k) j))) := by rw [px_up_up, zz_pl_s0]
        rw [e2, nI_succ j] at g
        exact g
def s_places (S M : Nat) (Z N : Nat → Int32) (F : Nat → Nat → Int32) (k : Nat) : Int32 × (Nat → Int32) × (Nat → Int32) × (Nat → Nat → Int32) := (if (Z (2 + k)) = 0 then ((-1000000000 - 2), Z, N, F) else ((nI (zz_run (s_plp F k) (min S M) 0)), Z, N, (va_up F 3 (zz_pl (F (19 + k)) (F 3) 0 (zz_run (s_plp F k) (min S M) 0)))))
theorem kc_places {Z N : Nat → Int32} {F : Nat → Nat → Int32} (hw : px_cw N) (k : Nat) {S M : Nat} (hk : k < 4) (hS : N (19 + k) = nI S) (hS24 : S ≤ 24) (hM3 : N 3 = nI M) (hM6 : M ≤ 6) : px_PM 3 78 [.ref 0, .int (nI k)] (px_CH Z N F, []) (fun r h' => r = some (.int (s_places S M Z N F k).1) ∧ ∃ Z' N' F', px_sc (s_places S M Z N F k).2.1 (s_places S M Z N F k).2.2.1 (s_places S M Z N F k).2.2.2 Z' N' F' ∧ h' = (px_CH Z' N' F', [])) := by
  refine px_PM.start (nL := 5) (code := pc_78) rfl rfl ?_
  refine px_PW.steps kt_78.2 2 rfl ?_
  refine px_PW.callV kt_78.2 rfl rfl rfl rfl (cc_sheetAt k hk) (by decide) (fun v h1 q => ?_)
  obtain ⟨rfl, rfl⟩ := q
  refine px_PW.steps kt_78.2 4 rfl ?_
  refine px_PW.callV kt_78.2 rfl rfl (ch_isSh hk) rfl (cc_isMissing hk) (by decide) (fun v h1 q => ?_)
  obtain ⟨rfl, rfl⟩ := q
  refine px_PW.steps kt_78.2 1 rfl ?_
  refine px_PW.br (fun c0 => ?_) (fun c0 => ?_)
  · have c0 : ¬ ((Z (2 + k)) = 0) := px_b1z (of_decide_eq_true c0)
    refine px_PW.steps kt_78.2 1 rfl ?_
    refine px_PW.getf kt_78.2 rfl (ch_sh hk) rfl ?_
    refine px_PW.callV kt_78.2 rfl rfl (ch_isO (by omega)) rfl (nb_size (q := 19 + k) (by omega)) (by decide) (fun v h1 q => ?_)
    obtain ⟨rfl, rfl⟩ := q
    refine px_PW.steps kt_78.2 3 rfl ?_
    refine px_PW.callV kt_78.2 rfl rfl rfl rfl (nb_size (q := 3) (by decide)) (by decide) (fun v h1 q => ?_)
    obtain ⟨rfl, rfl⟩ := q
    refine px_PW.steps kt_78.2 4 rfl ?_
    refine px_PW.lc (lv' := [some (.ref 0), some (.int (nI k)), some (.ref (42 + 3 * k)), some (.int (nI (min S M))), some (.int (nI 0))]) (by rw [← zz_min S M (by omega) (by omega), ← hS, ← hM3]; rfl) ?_
    refine px_PW.hp (h' := (px_CH Z N (va_up F 3 (zz_pl (F (19 + k)) (F 3) 0 0)), [])) (by rw [zz_pl_0, px_up_id]) ?_
    refine c_pl_loop hk hS hS24 hM3 hM6 rfl (min S M) 0 (by omega) ?_
    refine px_PW.steps kt_78.2 1 rfl ?_
    refine px_PW.ret kt_78.2 rfl rfl ?_
    have E : s_places S M Z N F k = ((nI (zz_run (s_plp F k) (min S M) 0)), Z, N, (va_up F 3 (zz_pl (F (19 + k)) (F 3) 0 (zz_run (s_plp F k) (min S M) 0)))) := if_neg c0
    rw [E]
    exact ⟨rfl, _, _, _, px_sc.rf, rfl⟩
  · have c0 : (Z (2 + k)) = 0 := px_b1n (of_decide_eq_false c0)
    refine px_PW.steps kt_78.2 2 rfl ?_
    refine px_PW.callV kt_78.2 rfl rfl rfl rfl (cc_error hw.2.2.1 2 (by decide)) (by decide) (fun v h1 q => ?_)
    obtain ⟨rfl, rfl⟩ := q
    refine px_PW.ret kt_78.2 rfl rfl ?_
    have E : s_places S M Z N F k = ((-1000000000 - 2), Z, N, F) := if_pos c0
    rw [E]
    exact ⟨rfl, _, _, _, px_sc.err, rfl⟩
def s_placesB (Z N : Nat → Int32) (F : Nat → Nat → Int32) (sheet : Int32) : Int32 × (Nat → Int32) × (Nat → Int32) × (Nat → Nat → Int32) := ((-1000000000 - 1), Z, N, F)
theorem kc_placesB {Z N : Nat → Int32} {F : Nat → Nat → Int32} (hw : px_cw N) (sheet : Int32) (hb : sheet < 0 ∨ 4 ≤ sheet) : px_PM 3 78 [.ref 0, .int sheet] (px_CH Z N F, []) (fun r h' => r = some (.int (s_placesB Z N F sheet).1) ∧ ∃ Z' N' F', px_sc (s_placesB Z N F sheet).2.1 (s_placesB Z N F sheet).2.2.1 (s_placesB Z N F sheet).2.2.2 Z' N' F' ∧ h' = (px_CH Z' N' F', [])) := by
  refine px_PM.start (nL := 5) (code := pc_78) rfl rfl ?_
  refine px_PW.steps kt_78.2 2 rfl ?_
  refine px_PW.callV kt_78.2 rfl rfl rfl rfl (cc_sheetAtB _ hb) (by decide) (fun v h1 q => ?_)
  obtain ⟨rfl, rfl⟩ := q
  refine px_PW.steps kt_78.2 5 rfl ?_
  refine px_PW.callV kt_78.2 rfl rfl rfl rfl (cc_error hw.2.2.1 1 (by decide)) (by decide) (fun v h1 q => ?_)
  obtain ⟨rfl, rfl⟩ := q
  refine px_PW.ret kt_78.2 rfl rfl ?_
  have E : s_placesB Z N F sheet = ((-1000000000 - 1), Z, N, F) := rfl
  rw [E]
  exact ⟨rfl, _, _, _, px_sc.err, rfl⟩
def s_ckp (M : Nat) (F : Nat → Nat → Int32) (j : Nat) : Bool := decide (j < M) && decide (F 3 j = F 8 j)
def s_ckr (W e : Nat) : Int32 := if e = W then 0 else 1 + nI e
theorem zz_1k {k : Nat} (h : k < 1000) : ¬ (1 + nI k = 0) := by
  rw [show (1 : Int32) = nI 1 from rfl, nI_add]
  exact nI_ne0 (by omega) (by omega)
theorem c_ck_loop {Z N : Nat → Int32} {F : Nat → Nat → Int32} {M W : Nat} (hM3 : N 3 = nI M) (hM6 : M ≤ 6) (hW8 : N 8 = nI W) (hW24 : W ≤ 24) {Q : Option Value → px_H → Prop} : ∀ (m k : Nat), k + m = W → (∀ o3 : Option Value, px_PW 1 pc_83 Q 73 [some (.ref 0), some (.int (nI W)), some (.int (s_ckr W (zz_run (s_ckp M F) m k))), o3] [] (px_CH Z N F, [])) → px_PW 1 pc_83 Q 15 [some (.ref 0), some (.int (nI W)), some (.int 0), some (.int (nI k))] [] (px_CH Z N F, [])
  | m, k, hk, H => by
    refine px_PW.steps kt_83.2 3 rfl ?_
    refine px_PW.br (fun c0 => ?_) (fun c0 => ?_)
    · have c0 : (nI W) ≤ (nI k) := of_decide_eq_true c0
      have c0 : W ≤ k := (nI_leI (a := W) (b := k) (by omega) (by omega)).mp c0
      obtain rfl : m = 0 := by omega
      have e : s_ckr W (zz_run (s_ckp M F) 0 k) = 0 := if_pos (by unfold zz_run; omega)
      rw [e] at H
      exact H _
    · have c0 : ¬ ((nI W) ≤ (nI k)) := of_decide_eq_false c0
      have c0 : ¬ (W ≤ k) := fun q => c0 ((nI_leI (a := W) (b := k) (by omega) (by omega)).mpr q)
      obtain ⟨m2, rfl⟩ : ∃ m2, m = m2 + 1 := ⟨m - 1, by omega⟩
      refine px_PW.steps kt_83.2 2 rfl ?_
      refine px_PW.br (fun c1 => ?_) (fun c1 => ?_)
      · have c1 : ¬ ((0 : Int32) = 0) := of_decide_eq_false (px_nt c1)
        exact absurd (rfl : (0 : Int32) = 0) c1
      · have c1 : (0 : Int32) = 0 := of_decide_eq_true (px_nf c1)
        refine px_PW.steps kt_83.2 4 rfl ?_
        refine px_PW.callV kt_83.2 rfl rfl rfl rfl (nb_stands (q := 3) (by decide) _) (by decide) (fun v h1 q => ?_)
        obtain ⟨rfl, rfl⟩ := q
        refine px_PW.steps kt_83.2 1 rfl ?_
        refine px_PW.br (fun c2 => ?_) (fun c2 => ?_)
        · have c2 : (nI k) < 0 ∨ (N 3) ≤ (nI k) := px_b0z (of_decide_eq_true c2)
          have c2 : ¬ (k < M) := fun q => (c2).elim (nI_pos (by omega)) (fun r => by rw [hM3] at r; exact nI_ge q (by omega) r)
          refine px_PW.steps kt_83.2 6 rfl ?_
          rw [zz_run_n (show ¬ (s_ckp M F k = true) by unfold s_ckp; rw [decide_eq_false c2]; exact Bool.noConfusion)] at H
          have e : s_ckr W k = 1 + nI k := if_neg (by omega)
          rw [e] at H
          refine px_PW.steps kt_83.2 3 rfl ?_
          refine px_PW.br (fun c20 => ?_) (fun c20 => ?_)
          · have c20 : (nI W) ≤ ((nI k) + 1) := of_decide_eq_true c20
            exact H _
          · have c20 : ¬ ((nI W) ≤ ((nI k) + 1)) := of_decide_eq_false c20
            refine px_PW.steps kt_83.2 2 rfl ?_
            refine px_PW.br (fun c21 => ?_) (fun c21 => ?_)
            · have c21 : ¬ ((1 + (nI k)) = 0) := of_decide_eq_false (px_nt c21)
              exact H _
            · have c21 : (1 + (nI k)) = 0 := of_decide_eq_true (px_nf c21)
              exact absurd c21 (zz_1k (by omega))
        · have c2 : ¬ ((nI k) < 0 ∨ (N 3) ≤ (nI k)) := px_b0n (of_decide_eq_false c2)
          have c2 : k < M := by rw [hM3] at c2; exact Nat.lt_of_not_le (fun r => c2 (Or.inr (nI_le r (by omega))))
          refine px_PW.steps kt_83.2 4 rfl ?_
          refine px_PW.callV kt_83.2 rfl rfl rfl rfl (nb_getN (q := 3) (L := M) (by decide) hM3 (show M ≤ px_lim 3 from hM6) c2) (by decide) (fun v h1 q => ?_)
          obtain ⟨rfl, rfl⟩ := q
          refine px_PW.steps kt_83.2 4 rfl ?_
          refine px_PW.callV kt_83.2 rfl rfl rfl rfl (nb_getN (q := 8) (L := W) (by decide) hW8 (show W ≤ px_lim 8 from hW24) (show k < W by omega)) (by decide) (fun v h1 q => ?_)
          obtain ⟨rfl, rfl⟩ := q
          refine px_PW.steps kt_83.2 1 rfl ?_
          refine px_PW.br (fun c3 => ?_) (fun c3 => ?_)
          · have c3 : (F 3 k) = (F 8 k) := of_decide_eq_true c3
            refine px_PW.steps kt_83.2 2 rfl ?_
            rw [zz_run_y (show s_ckp M F k = true by unfold s_ckp; rw [decide_eq_true c2, decide_eq_true c3]; rfl)] at H
            have g := c_ck_loop hM3 hM6 hW8 hW24 (Z := Z) (F := F) (Q := Q) m2 (k + 1) (by omega) H
            rw [nI_succ k] at g
            exact g
          · have c3 : ¬ ((F 3 k) = (F 8 k)) := of_decide_eq_false c3
            refine px_PW.steps kt_83.2 6 rfl ?_
            rw [zz_run_n (show ¬ (s_ckp M F k = true) by unfold s_ckp; rw [decide_eq_false c3, Bool.and_false]; exact Bool.noConfusion)] at H
            have e : s_ckr W k = 1 + nI k := if_neg (by omega)
            rw [e] at H
            refine px_PW.steps kt_83.2 3 rfl ?_
            refine px_PW.br (fun c20 => ?_) (fun c20 => ?_)
            · have c20 : (nI W) ≤ ((nI k) + 1) := of_decide_eq_true c20
              exact H _
            · have c20 : ¬ ((nI W) ≤ ((nI k) + 1)) := of_decide_eq_false c20
              refine px_PW.steps kt_83.2 2 rfl ?_
              refine px_PW.br (fun c21 => ?_) (fun c21 => ?_)
              · have c21 : ¬ ((1 + (nI k)) = 0) := of_decide_eq_false (px_nt c21)
                exact H _
              · have c21 : (1 + (nI k)) = 0 := of_decide_eq_true (px_nf c21)
                exact absurd c21 (zz_1k (by omega))
def s_check (M W : Nat) (Z N : Nat → Int32) (F : Nat → Nat → Int32)  : Int32 × (Nat → Int32) × (Nat → Int32) × (Nat → Nat → Int32) := ((s_ckr W (zz_run (s_ckp M F) W 0)), Z, (upd N 8 0), F)
theorem kc_check {Z N : Nat → Int32} {F : Nat → Nat → Int32} (hw : px_cw N) {M W : Nat} (hM3 : N 3 = nI M) (hM6 : M ≤ 6) (hW8 : N 8 = nI W) (hW24 : W ≤ 24)  : px_PM 2 83 [.ref 0] (px_CH Z N F, []) (fun r h' => r = some (.int (s_check M W Z N F).1) ∧ ∃ Z' N' F', px_sc (s_check M W Z N F).2.1 (s_check M W Z N F).2.2.1 (s_check M W Z N F).2.2.2 Z' N' F' ∧ h' = (px_CH Z' N' F', [])) := by
  refine px_PM.start (nL := 4) (code := pc_83) rfl rfl ?_
  refine px_PW.steps kt_83.2 3 rfl ?_
  refine px_PW.callV kt_83.2 rfl rfl rfl rfl (nb_size (q := 8) (by decide)) (by decide) (fun v h1 q => ?_)
  obtain ⟨rfl, rfl⟩ := q
  refine px_PW.steps kt_83.2 5 rfl ?_
  refine px_PW.lc (lv' := [some (.ref 0), some (.int (nI W)), some (.int 0), some (.int (nI 0))]) (by rw [← hW8]; rfl) ?_
  refine c_ck_loop hM3 hM6 hW8 hW24 W 0 (by omega) (fun o3 => ?_)
  refine px_PW.steps kt_83.2 3 rfl ?_
  refine px_PW.callV kt_83.2 rfl rfl rfl rfl (nb_clear (q := 8) (by decide)) (by decide) (fun v h1 q => ?_)
  obtain ⟨rfl, rfl⟩ := q
  refine px_PW.steps kt_83.2 1 rfl ?_
  refine px_PW.ret kt_83.2 rfl rfl ?_
  have E : s_check M W Z N F = ((s_ckr W (zz_run (s_ckp M F) W 0)), Z, (upd N 8 0), F) := rfl
  rw [E]
  exact ⟨rfl, _, _, _, px_sc.rf, rfl⟩
/-- the greatest d from m down that divides both; 1 if there is none above it -/
def zz_cd (x y : Nat) : Nat → Nat
  | 0 => 1
  | d + 1 => if d + 1 ≤ 1 then 1 else if x % (d + 1) = 0 ∧ y % (d + 1) = 0 then d + 1 else zz_cd x y d
theorem c_cd_loop {x y : Nat} (hx : x < 1000) (hy : y < 1000) {h : px_H} {Q : Option Value → px_H → Prop} (H : Q (some (.int (nI (zz_cd x y y)))) h) : ∀ (k : Nat), k < 1000 → zz_cd x y k = zz_cd x y y → px_PW 1 pc_99 Q 2 [some (.int (nI x)), some (.int (nI y)), some (.int (nI k))] [] h
  | k, hk, hE => by
    refine px_PW.steps kt_99.2 3 rfl ?_
    refine px_PW.br (fun c0 => ?_) (fun c0 => ?_)
    · have c0 : (nI k) ≤ 1 := of_decide_eq_true c0
      have c0 : k ≤ 1 := (nI_leI (a := k) (b := 1) (by omega) (by omega)).mp c0
      refine px_PW.steps kt_99.2 1 rfl ?_
      refine px_PW.ret kt_99.2 rfl rfl ?_
      have e : zz_cd x y k = 1 := by
        rcases (show k = 0 ∨ k = 1 by omega) with rfl | rfl <;> rfl
      rw [← hE, e] at H
      exact H
    · have c0 : ¬ ((nI k) ≤ 1) := of_decide_eq_false c0
      have c0 : ¬ (k ≤ 1) := (fun q => c0 ((nI_leI (a := k) (b := 1) (by omega) (by omega)).mpr q))
      obtain ⟨d, hd⟩ : ∃ d, k = d + 1 := ⟨k - 1, by omega⟩
      refine px_PW.steps kt_99.2 2 rfl ?_
      refine px_PW.callS kt_99.2 rfl rfl rfl (cc_rest _ _ _) (by decide) (fun v h1 q => ?_)
      obtain ⟨rfl, rfl⟩ := q
      refine px_PW.steps kt_99.2 1 rfl ?_
      refine px_PW.br (fun c1 => ?_) (fun c1 => ?_)
      · have c1 : ¬ ((i_rem (nI x) (nI k)) = 0) := of_decide_eq_false (px_nt c1)
        have c1 : ¬ (x % k = 0) := by rw [zz_irem (by omega) (by omega) (by omega)] at c1; exact fun q => c1 (by rw [q]; rfl)
        refine px_PW.steps kt_99.2 2 rfl ?_
        have e0 : zz_cd x y k = zz_cd x y d := by subst hd; exact (if_neg (show ¬ (d + 1 ≤ 1) by omega)).trans (if_neg (fun q => c1 q.1))
        have g := c_cd_loop hx hy H d (by omega) (by rw [← hE, e0])
        have e : nI k + -1 = nI d := by rw [hd]; exact zz_dec d
        refine px_PW.lc (lv' := [some (.int (nI x)), some (.int (nI y)), some (.int (nI d))]) (by rw [← e]; rfl) ?_
        exact g
      · have c1 : (i_rem (nI x) (nI k)) = 0 := of_decide_eq_true (px_nf c1)
        have c1 : x % k = 0 := by rw [zz_irem (by omega) (by omega) (by omega)] at c1; exact (nI_eq (b := 0) (by have := Nat.mod_lt x (show 0 < k by omega); omega) (by omega)).mp c1
        refine px_PW.steps kt_99.2 2 rfl ?_
        refine px_PW.callS kt_99.2 rfl rfl rfl (cc_rest _ _ _) (by decide) (fun v h1 q => ?_)
        obtain ⟨rfl, rfl⟩ := q
        refine px_PW.steps kt_99.2 1 rfl ?_
        refine px_PW.br (fun c2 => ?_) (fun c2 => ?_)
        · have c2 : ¬ ((i_rem (nI y) (nI k)) = 0) := of_decide_eq_false (px_nt c2)
          have c2 : ¬ (y % k = 0) := by rw [zz_irem (by omega) (by omega) (by omega)] at c2; exact fun q => c2 (by rw [q]; rfl)
          refine px_PW.steps kt_99.2 2 rfl ?_
          have e0 : zz_cd x y k = zz_cd x y d := by subst hd; exact (if_neg (show ¬ (d + 1 ≤ 1) by omega)).trans (if_neg (fun q => c2 q.2))
          have g := c_cd_loop hx hy H d (by omega) (by rw [← hE, e0])
          have e : nI k + -1 = nI d := by rw [hd]; exact zz_dec d
          refine px_PW.lc (lv' := [some (.int (nI x)), some (.int (nI y)), some (.int (nI d))]) (by rw [← e]; rfl) ?_
          exact g
        · have c2 : (i_rem (nI y) (nI k)) = 0 := of_decide_eq_true (px_nf c2)
          have c2 : y % k = 0 := by rw [zz_irem (by omega) (by omega) (by omega)] at c2; exact (nI_eq (b := 0) (by have := Nat.mod_lt y (show 0 < k by omega); omega) (by omega)).mp c2
          refine px_PW.steps kt_99.2 1 rfl ?_
          refine px_PW.ret kt_99.2 rfl rfl ?_
          have e : zz_cd x y k = k := by subst hd; exact (if_neg (show ¬ (d + 1 ≤ 1) by omega)).trans (if_pos ⟨c1, c2⟩)
          rw [← hE, e] at H
          exact H
theorem cc_cd {x y : Nat} (hx : x < 1000) (hy : y < 1000) (h : px_H) : px_PM 2 99 [.int (nI x), .int (nI y)] h (fun r h' => r = some (.int (nI (zz_cd x y y))) ∧ h' = h) := by
  refine px_PM.start (nL := 3) (code := pc_99) rfl rfl ?_
  refine px_PW.steps kt_99.2 2 rfl ?_
  exact c_cd_loop hx hy ⟨rfl, rfl⟩ y hy rfl
end
/-! part 34.crow -/
section
def s_piece (Z N : Nat → Int32) (F : Nat → Nat → Int32) (row : Int32) (i : Int32) : Int32 := (if row < 0 ∨ ((F 0) 4) ≤ row then (-1000000000 - 1) else (if (-1) ≤ i then (if i = (-1) then ((c_lay Z F row ((F 0) 6)) 10) else (if ((c_lay Z F row ((F 0) 6)) 10) ≤ i then (-1000000000 - 2) else (w_wid (c_lay Z F row ((F 0) 6)) i))) else (-1000000000 - 1)))
theorem kc_piece {Z N : Nat → Int32} {F : Nat → Nat → Int32} (hw : px_cw N) (row : Int32) (i : Int32) : px_PM 5 61 [.ref 0, .int row, .int i] (px_CH Z N F, []) (fun r h' => r = some (.int (s_piece Z N F row i)) ∧ ∃ Z' N' F', px_sc Z N F Z' N' F' ∧ h' = (px_CH Z' N' F', [])) := by
  refine px_PM.start (nL := 3) (code := pc_61) rfl rfl ?_
  refine px_PW.steps kt_61.2 2 rfl ?_
  refine px_PW.callV kt_61.2 rfl rfl rfl rfl (cc_isRow hw.1 _) (by decide) (fun v h1 q => ?_)
  obtain ⟨rfl, rfl⟩ := q
  refine px_PW.steps kt_61.2 1 rfl ?_
  refine px_PW.br (fun c0 => ?_) (fun c0 => ?_)
  · have c0 : row < 0 ∨ ((F 0) 4) ≤ row := px_b0z (of_decide_eq_true c0)
    refine px_PW.steps kt_61.2 2 rfl ?_
    refine px_PW.callV kt_61.2 rfl rfl rfl rfl (cc_error hw.2.2.1 1 (by decide)) (by decide) (fun v h1 q => ?_)
    obtain ⟨rfl, rfl⟩ := q
    refine px_PW.ret kt_61.2 rfl rfl ?_
    have E : s_piece Z N F row i = (-1000000000 - 1) := if_pos c0
    rw [E]
    exact ⟨rfl, _, _, _, px_sc.err, rfl⟩
  · have c0 : ¬ (row < 0 ∨ ((F 0) 4) ≤ row) := px_b0n (of_decide_eq_false c0)
    refine px_PW.steps kt_61.2 3 rfl ?_
    refine px_PW.br (fun c1 => ?_) (fun c1 => ?_)
    · have c1 : (-1) ≤ i := of_decide_eq_true c1
      refine px_PW.steps kt_61.2 4 rfl ?_
      refine px_PW.callV kt_61.2 rfl rfl rfl rfl (cc_is (N := N) hw.1 6 (by decide)) (by decide) (fun v h1 q => ?_)
      obtain ⟨rfl, rfl⟩ := q
      refine px_PW.callV kt_61.2 rfl rfl rfl rfl (rr_lay (N := N) hw.1 _ _) (by decide) (fun v h1 q => ?_)
      obtain ⟨rfl, rfl⟩ := q
      refine px_PW.steps kt_61.2 3 rfl ?_
      refine px_PW.br (fun c2 => ?_) (fun c2 => ?_)
      · have c2 : ¬ (i = (-1)) := of_decide_eq_false (px_nt c2)
        refine px_PW.steps kt_61.2 5 rfl ?_
        refine px_PW.br (fun c3 => ?_) (fun c3 => ?_)
        · have c3 : ((c_lay Z F row ((F 0) 6)) 10) ≤ i := of_decide_eq_true c3
          refine px_PW.steps kt_61.2 2 rfl ?_
          refine px_PW.callV kt_61.2 rfl rfl rfl rfl (cc_error hw.2.2.1 2 (by decide)) (by decide) (fun v h1 q => ?_)
          obtain ⟨rfl, rfl⟩ := q
          refine px_PW.ret kt_61.2 rfl rfl ?_
          have E : s_piece Z N F row i = (-1000000000 - 2) := (if_neg c0).trans ((if_pos c1).trans ((if_neg c2).trans (if_pos c3)))
          rw [E]
          exact ⟨rfl, _, _, _, (px_sc.z (c_lay_same _ _ _ _)).tr (px_sc.err), rfl⟩
        · have c3 : ¬ (((c_lay Z F row ((F 0) 6)) 10) ≤ i) := of_decide_eq_false c3
          refine px_PW.steps kt_61.2 3 rfl ?_
          refine px_PW.callV kt_61.2 rfl rfl rfl rfl (rw_wid _) (by decide) (fun v h1 q => ?_)
          obtain ⟨rfl, rfl⟩ := q
          refine px_PW.steps kt_61.2 1 rfl ?_
          refine px_PW.ret kt_61.2 rfl rfl ?_
          have E : s_piece Z N F row i = (w_wid (c_lay Z F row ((F 0) 6)) i) := (if_neg c0).trans ((if_pos c1).trans ((if_neg c2).trans (if_neg c3)))
          rw [E]
          exact ⟨rfl, _, _, _, px_sc.z (c_lay_same _ _ _ _), rfl⟩
      · have c2 : i = (-1) := of_decide_eq_true (px_nf c2)
        refine px_PW.steps kt_61.2 3 rfl ?_
        refine px_PW.ret kt_61.2 rfl rfl ?_
        have E : s_piece Z N F row i = ((c_lay Z F row ((F 0) 6)) 10) := (if_neg c0).trans ((if_pos c1).trans (if_pos c2))
        rw [E]
        exact ⟨rfl, _, _, _, px_sc.z (c_lay_same _ _ _ _), rfl⟩
    · have c1 : ¬ ((-1) ≤ i) := of_decide_eq_false c1
      refine px_PW.steps kt_61.2 2 rfl ?_
      refine px_PW.callV kt_61.2 rfl rfl rfl rfl (cc_error hw.2.2.1 1 (by decide)) (by decide) (fun v h1 q => ?_)
      obtain ⟨rfl, rfl⟩ := q
      refine px_PW.ret kt_61.2 rfl rfl ?_
      have E : s_piece Z N F row i = (-1000000000 - 1) := (if_neg c0).trans (if_neg c1)
      rw [E]
      exact ⟨rfl, _, _, _, px_sc.err, rfl⟩
def s_rowIs (Z N : Nat → Int32) (F : Nat → Nat → Int32) (row : Int32) (what : Int32) : Int32 := (if row < 0 ∨ ((F 0) 4) ≤ row then (-1000000000 - 1) else (if what = 0 then (c_len F row) else (if what = 1 then (w_cuts (c_lay Z F row ((F 0) 6))) else (if what = 2 then (w_nar (c_lay Z F row ((F 0) 6))) else (if what = 3 then (c_first F row ((F 0) 6)) else (-1000000000 - 1))))))
theorem px_swd_62_26 {x : Int32} (c0 : ¬ (x = 0)) (c1 : ¬ (x = 1)) (c2 : ¬ (x = 2)) (c3 : ¬ (x = 3)) : px_sw 0 [56, 62, 70, 78] 90 x.toInt = 90 := by
  have d0 : ¬ (x.toInt = 0) := fun h => c0 (px_i_of h (by decide +kernel))
  have d1 : ¬ (x.toInt = 1) := fun h => c1 (px_i_of h (by decide +kernel))
  have d2 : ¬ (x.toInt = 2) := fun h => c2 (px_i_of h (by decide +kernel))
  have d3 : ¬ (x.toInt = 3) := fun h => c3 (px_i_of h (by decide +kernel))
  exact px_sw_d (fun y h1 h2 => by
    have h1 : (0 : Int) ≤ y := h1
    have h2 : y < 4 := h2
    rcases (show y = 0 ∨ y = 1 ∨ y = 2 ∨ y = 3 by omega) with rfl | rfl | rfl | rfl
    · exact Or.inl (fun h => d0 h)
    · exact Or.inl (fun h => d1 h)
    · exact Or.inl (fun h => d2 h)
    · exact Or.inl (fun h => d3 h))
theorem kc_rowIs {Z N : Nat → Int32} {F : Nat → Nat → Int32} (hw : px_cw N) (row : Int32) (what : Int32) : px_PM 5 62 [.ref 0, .int row, .int what] (px_CH Z N F, []) (fun r h' => r = some (.int (s_rowIs Z N F row what)) ∧ ∃ Z' N' F', px_sc Z N F Z' N' F' ∧ h' = (px_CH Z' N' F', [])) := by
  refine px_PM.start (nL := 3) (code := pc_62) rfl rfl ?_
  refine px_PW.steps kt_62.2 2 rfl ?_
  refine px_PW.callV kt_62.2 rfl rfl rfl rfl (cc_isRow hw.1 _) (by decide) (fun v h1 q => ?_)
  obtain ⟨rfl, rfl⟩ := q
  refine px_PW.steps kt_62.2 1 rfl ?_
  refine px_PW.br (fun c0 => ?_) (fun c0 => ?_)
  · have c0 : ¬ (row < 0 ∨ ((F 0) 4) ≤ row) := px_b0n (of_decide_eq_false (px_nt c0))
    refine px_PW.steps kt_62.2 4 rfl ?_
    refine px_PW.callV kt_62.2 rfl rfl rfl rfl (cc_is (N := N) hw.1 6 (by decide)) (by decide) (fun v h1 q => ?_)
    obtain ⟨rfl, rfl⟩ := q
    refine px_PW.callV kt_62.2 rfl rfl rfl rfl (rr_lay (N := N) hw.1 _ _) (by decide) (fun v h1 q => ?_)
    obtain ⟨rfl, rfl⟩ := q
    refine px_PW.steps kt_62.2 2 rfl ?_
    by_cases c1 : what = 0
    · refine px_PW.at (pc' := 56) (by rw [c1]; rfl) ?_
      refine px_PW.steps kt_62.2 2 rfl ?_
      refine px_PW.callV kt_62.2 rfl rfl rfl rfl (rr_len hw.1 _) (by decide) (fun v h1 q => ?_)
      obtain ⟨rfl, rfl⟩ := q
      refine px_PW.ret kt_62.2 rfl rfl ?_
      have E : s_rowIs Z N F row what = (c_len F row) := (if_neg c0).trans (if_pos c1)
      rw [E]
      exact ⟨rfl, _, _, _, px_sc.z (c_lay_same _ _ _ _), rfl⟩
    · skip
      by_cases c2 : what = 1
      · refine px_PW.at (pc' := 62) (by rw [c2]; rfl) ?_
        refine px_PW.steps kt_62.2 2 rfl ?_
        refine px_PW.callV kt_62.2 rfl rfl rfl rfl (rw_cuts) (by decide) (fun v h1 q => ?_)
        obtain ⟨rfl, rfl⟩ := q
        refine px_PW.ret kt_62.2 rfl rfl ?_
        have E : s_rowIs Z N F row what = (w_cuts (c_lay Z F row ((F 0) 6))) := (if_neg c0).trans ((if_neg c1).trans (if_pos c2))
        rw [E]
        exact ⟨rfl, _, _, _, px_sc.z (c_lay_same _ _ _ _), rfl⟩
      · skip
        by_cases c3 : what = 2
        · refine px_PW.at (pc' := 70) (by rw [c3]; rfl) ?_
          refine px_PW.steps kt_62.2 2 rfl ?_
          refine px_PW.callV kt_62.2 rfl rfl rfl rfl (rw_nar) (by decide) (fun v h1 q => ?_)
          obtain ⟨rfl, rfl⟩ := q
          refine px_PW.ret kt_62.2 rfl rfl ?_
          have E : s_rowIs Z N F row what = (w_nar (c_lay Z F row ((F 0) 6))) := (if_neg c0).trans ((if_neg c1).trans ((if_neg c2).trans (if_pos c3)))
          rw [E]
          exact ⟨rfl, _, _, _, px_sc.z (c_lay_same _ _ _ _), rfl⟩
        · skip
          by_cases c4 : what = 3
          · refine px_PW.at (pc' := 78) (by rw [c4]; rfl) ?_
            refine px_PW.steps kt_62.2 4 rfl ?_
            refine px_PW.callV kt_62.2 rfl rfl rfl rfl (cc_is (N := N) hw.1 6 (by decide)) (by decide) (fun v h1 q => ?_)
            obtain ⟨rfl, rfl⟩ := q
            refine px_PW.callV kt_62.2 rfl rfl rfl rfl (rr_first hw.1 _ _) (by decide) (fun v h1 q => ?_)
            obtain ⟨rfl, rfl⟩ := q
            refine px_PW.ret kt_62.2 rfl rfl ?_
            have E : s_rowIs Z N F row what = (c_first F row ((F 0) 6)) := (if_neg c0).trans ((if_neg c1).trans ((if_neg c2).trans ((if_neg c3).trans (if_pos c4))))
            rw [E]
            exact ⟨rfl, _, _, _, px_sc.z (c_lay_same _ _ _ _), rfl⟩
          · skip
            refine px_PW.at (px_swd_62_26 c1 c2 c3 c4) ?_
            refine px_PW.steps kt_62.2 2 rfl ?_
            refine px_PW.callV kt_62.2 rfl rfl rfl rfl (cc_error hw.2.2.1 1 (by decide)) (by decide) (fun v h1 q => ?_)
            obtain ⟨rfl, rfl⟩ := q
            refine px_PW.ret kt_62.2 rfl rfl ?_
            have E : s_rowIs Z N F row what = (-1000000000 - 1) := (if_neg c0).trans ((if_neg c1).trans ((if_neg c2).trans ((if_neg c3).trans (if_neg c4))))
            rw [E]
            exact ⟨rfl, _, _, _, (px_sc.z (c_lay_same _ _ _ _)).tr (px_sc.err), rfl⟩
  · have c0 : row < 0 ∨ ((F 0) 4) ≤ row := px_b0z (of_decide_eq_true (px_nf c0))
    refine px_PW.steps kt_62.2 2 rfl ?_
    refine px_PW.callV kt_62.2 rfl rfl rfl rfl (cc_error hw.2.2.1 1 (by decide)) (by decide) (fun v h1 q => ?_)
    obtain ⟨rfl, rfl⟩ := q
    refine px_PW.ret kt_62.2 rfl rfl ?_
    have E : s_rowIs Z N F row what = (-1000000000 - 1) := if_pos c0
    rw [E]
    exact ⟨rfl, _, _, _, px_sc.err, rfl⟩
def c_wrow (F : Nat → Nat → Int32) (k s : Int32) (j : Nat) : Int32 := w_wid (c_lay (fun _ => 0) F k s) (nI j)
theorem c_wrow_eq (Z : Nat → Int32) (F : Nat → Nat → Int32) (k s : Int32) (j : Nat) : w_wid (c_lay Z F k s) (nI j) = c_wrow F k s j := rfl
def s_rff (Z : Nat → Int32) (F : Nat → Nat → Int32) (k j : Nat) : Bool := decide (F (19 + k) j = w_wid Z (nI j))
theorem c_rf_loop {Z N : Nat → Int32} {F : Nat → Nat → Int32} {k S P : Nat} (hk : k < 4) (hS : N (19 + k) = nI S) (hS24 : S ≤ 24) (hP : Z 10 = nI P) (hP3 : P < 1000) {B : Nat} (hB : B = min S P) {Q : Option Value → px_H → Prop} : ∀ (m j : Nat), j + m = B → px_PW 2 pc_106 Q 44 [some (.ref 0), some (.ref (px_O (19 + k))), some (.int (nI B)), some (.int (nI (zz_run (s_rff Z F k) m j)))] [] (px_CH Z N F, []) → px_PW 2 pc_106 Q 17 [some (.ref 0), some (.ref (px_O (19 + k))), some (.int (nI B)), some (.int (nI j))] [] (px_CH Z N F, [])
  | m, j, hj, H => by
    refine px_PW.steps kt_106.2 3 rfl ?_
    refine px_PW.br (fun c0 => ?_) (fun c0 => ?_)
    · have c0 : (nI B) ≤ (nI j) := of_decide_eq_true c0
      have c0 : B ≤ j := (nI_leI (a := B) (b := j) (by omega) (by omega)).mp c0
      obtain rfl : m = 0 := by omega
      exact H
    · have c0 : ¬ ((nI B) ≤ (nI j)) := of_decide_eq_false c0
      have c0 : ¬ (B ≤ j) := fun q => c0 ((nI_leI (a := B) (b := j) (by omega) (by omega)).mpr q)
      obtain ⟨m2, rfl⟩ : ∃ m2, m = m2 + 1 := ⟨m - 1, by omega⟩
      refine px_PW.steps kt_106.2 2 rfl ?_
      refine px_PW.callV kt_106.2 rfl rfl (ch_isO (by omega)) rfl (nb_getN (q := 19 + k) (L := S) (by omega) hS (by rw [px_lim19 hk]; exact hS24) (show j < S by omega)) (by decide) (fun v h1 q => ?_)
      obtain ⟨rfl, rfl⟩ := q
      refine px_PW.steps kt_106.2 3 rfl ?_
      refine px_PW.callV kt_106.2 rfl rfl rfl rfl (rw_wid _) (by decide) (fun v h1 q => ?_)
      obtain ⟨rfl, rfl⟩ := q
      refine px_PW.steps kt_106.2 1 rfl ?_
      refine px_PW.br (fun c1 => ?_) (fun c1 => ?_)
      · have c1 : ¬ ((F (19 + k) j) = (w_wid Z (nI j))) := of_decide_eq_false (px_nt c1)
        rw [zz_run_n (show ¬ (s_rff Z F k j = true) from fun q => c1 (of_decide_eq_true q))] at H
        exact H
      · have c1 : (F (19 + k) j) = (w_wid Z (nI j)) := of_decide_eq_true (px_nf c1)
        refine px_PW.steps kt_106.2 2 rfl ?_
        rw [zz_run_y (show s_rff Z F k j = true from decide_eq_true c1)] at H
        have g := c_rf_loop hk hS hS24 hP hP3 hB (Q := Q) m2 (j + 1) (by omega) H
        rw [nI_succ j] at g
        exact g
theorem cc_rff {Z N : Nat → Int32} {F : Nat → Nat → Int32} {k S P : Nat} (hk : k < 4) (hS : N (19 + k) = nI S) (hS24 : S ≤ 24) (hP : Z 10 = nI P) (hP3 : P < 1000) : px_PM 3 106 [.ref 0, .ref (px_O (19 + k))] (px_CH Z N F, []) (fun r h' => r = some (.int (nI (zz_run (s_rff Z F k) (min S P) 0))) ∧ h' = (px_CH Z N F, [])) := by
  refine px_PM.start (nL := 4) (code := pc_106) rfl rfl ?_
  refine px_PW.steps kt_106.2 1 rfl ?_
  refine px_PW.callV kt_106.2 rfl rfl (ch_isO (by omega)) rfl (nb_size (q := 19 + k) (by omega)) (by decide) (fun v h1 q => ?_)
  obtain ⟨rfl, rfl⟩ := q
  refine px_PW.steps kt_106.2 7 rfl ?_
  refine px_PW.lc (lv' := [some (.ref 0), some (.ref (px_O (19 + k))), some (.int (nI (min S P))), some (.int (nI 0))]) (by rw [← zz_min S P (by omega) (by omega), ← hS, ← hP]; rfl) ?_
  refine c_rf_loop hk hS hS24 hP hP3 rfl (min S P) 0 (by omega) ?_
  refine px_PW.steps kt_106.2 1 rfl ?_
  exact px_PW.ret kt_106.2 rfl rfl ⟨rfl, rfl⟩
def s_judge (S P : Nat) (Z N : Nat → Int32) (F : Nat → Nat → Int32) (k : Nat) : Int32 := (if (Z (2 + k)) = 0 then (-1000000000 - 2) else (nI (zz_run (s_rff (c_lay Z F 0 ((F 0) 6)) F k) (min S P) 0)))
theorem kc_judge {Z N : Nat → Int32} {F : Nat → Nat → Int32} (hw : px_cw N) (k : Nat) {S P : Nat} (hk : k < 4) (hS : N (19 + k) = nI S) (hS24 : S ≤ 24) (hP : c_prow F 0 (F 0 6) = nI P) (hP3 : P < 1000) : px_PM 5 79 [.ref 0, .int (nI k)] (px_CH Z N F, []) (fun r h' => r = some (.int (s_judge S P Z N F k)) ∧ ∃ Z' N' F', px_sc Z N F Z' N' F' ∧ h' = (px_CH Z' N' F', [])) := by
  refine px_PM.start (nL := 3) (code := pc_79) rfl rfl ?_
  refine px_PW.steps kt_79.2 2 rfl ?_
  refine px_PW.callV kt_79.2 rfl rfl rfl rfl (cc_sheetAt k hk) (by decide) (fun v h1 q => ?_)
  obtain ⟨rfl, rfl⟩ := q
  refine px_PW.steps kt_79.2 4 rfl ?_
  refine px_PW.callV kt_79.2 rfl rfl (ch_isSh hk) rfl (cc_isMissing hk) (by decide) (fun v h1 q => ?_)
  obtain ⟨rfl, rfl⟩ := q
  refine px_PW.steps kt_79.2 1 rfl ?_
  refine px_PW.br (fun c0 => ?_) (fun c0 => ?_)
  · have c0 : ¬ ((Z (2 + k)) = 0) := px_b1z (of_decide_eq_true c0)
    refine px_PW.steps kt_79.2 4 rfl ?_
    refine px_PW.callV kt_79.2 rfl rfl rfl rfl (cc_is (N := N) hw.1 6 (by decide)) (by decide) (fun v h1 q => ?_)
    obtain ⟨rfl, rfl⟩ := q
    refine px_PW.callV kt_79.2 rfl rfl rfl rfl (rr_lay (N := N) hw.1 _ _) (by decide) (fun v h1 q => ?_)
    obtain ⟨rfl, rfl⟩ := q
    refine px_PW.steps kt_79.2 2 rfl ?_
    refine px_PW.getf kt_79.2 rfl (ch_sh hk) rfl ?_
    refine px_PW.callV kt_79.2 rfl rfl rfl rfl (cc_rff (Z := (c_lay Z F 0 ((F 0) 6))) hk hS hS24 hP hP3) (by decide) (fun v h1 q => ?_)
    obtain ⟨rfl, rfl⟩ := q
    refine px_PW.ret kt_79.2 rfl rfl ?_
    have E : s_judge S P Z N F k = (nI (zz_run (s_rff (c_lay Z F 0 ((F 0) 6)) F k) (min S P) 0)) := if_neg c0
    rw [E]
    exact ⟨rfl, _, _, _, px_sc.z (c_lay_same _ _ _ _), rfl⟩
  · have c0 : (Z (2 + k)) = 0 := px_b1n (of_decide_eq_false c0)
    refine px_PW.steps kt_79.2 2 rfl ?_
    refine px_PW.callV kt_79.2 rfl rfl rfl rfl (cc_error hw.2.2.1 2 (by decide)) (by decide) (fun v h1 q => ?_)
    obtain ⟨rfl, rfl⟩ := q
    refine px_PW.ret kt_79.2 rfl rfl ?_
    have E : s_judge S P Z N F k = (-1000000000 - 2) := if_pos c0
    rw [E]
    exact ⟨rfl, _, _, _, px_sc.err, rfl⟩
def s_judgeB (Z N : Nat → Int32) (F : Nat → Nat → Int32) (sheet : Int32) : Int32 := (-1000000000 - 1)
theorem kc_judgeB {Z N : Nat → Int32} {F : Nat → Nat → Int32} (hw : px_cw N) (sheet : Int32) (hb : sheet < 0 ∨ 4 ≤ sheet) : px_PM 3 79 [.ref 0, .int sheet] (px_CH Z N F, []) (fun r h' => r = some (.int (s_judgeB Z N F sheet)) ∧ ∃ Z' N' F', px_sc Z N F Z' N' F' ∧ h' = (px_CH Z' N' F', [])) := by
  refine px_PM.start (nL := 3) (code := pc_79) rfl rfl ?_
  refine px_PW.steps kt_79.2 2 rfl ?_
  refine px_PW.callV kt_79.2 rfl rfl rfl rfl (cc_sheetAtB _ hb) (by decide) (fun v h1 q => ?_)
  obtain ⟨rfl, rfl⟩ := q
  refine px_PW.steps kt_79.2 5 rfl ?_
  refine px_PW.callV kt_79.2 rfl rfl rfl rfl (cc_error hw.2.2.1 1 (by decide)) (by decide) (fun v h1 q => ?_)
  obtain ⟨rfl, rfl⟩ := q
  refine px_PW.ret kt_79.2 rfl rfl ?_
  have E : s_judgeB Z N F sheet = (-1000000000 - 1) := rfl
  rw [E]
  exact ⟨rfl, _, _, _, px_sc.err, rfl⟩
/-- from START s down to 1: how many fit, and the least -/
def s_fit (g : Nat → Bool) : Nat → Int32 × Int32 → Int32 × Int32
  | 0, a => a
  | s + 1, a => s_fit g s (if g (s + 1) = true then (a.1 + 1, nI (s + 1)) else a)
def s_fitg (S : Nat) (P : Nat → Nat) (F : Nat → Nat → Int32) (k s : Nat) : Bool := decide (nI (zz_run (s_rff (c_lay (fun _ => 0) F 0 (nI s)) F k) (min S (P s)) 0) = nI S)
theorem c_fit_loop {N : Nat → Int32} {F : Nat → Nat → Int32} (hw : px_cw N) {k : Nat} {S T : Nat} {P : Nat → Nat} (hk : k < 4) (hS : N (19 + k) = nI S) (hS24 : S ≤ 24) (hP : ∀ s : Nat, 1 ≤ s → s ≤ T → c_prow F 0 (nI s) = nI (P s) ∧ P s < 1000) (hT : F 0 1 = nI T) (hT200 : T ≤ 200) {what : Int32} {Q : Option Value → px_H → Prop} : ∀ (s : Nat) (a : Int32 × Int32) (Z : Nat → Int32), s ≤ T → (∀ Z' : Nat → Int32, px_same Z Z' → px_PW 4 pc_72 Q 95 [some (.ref 0), some (.int (nI k)), some (.int what), some (.ref (42 + 3 * k)), some (.int (s_fit (s_fitg S P F k) s a).1), some (.int (s_fit (s_fitg S P F k) s a).2), some (.int (nI 0))] [] (px_CH Z' N F, [])) → px_PW 4 pc_72 Q 51 [some (.ref 0), some (.int (nI k)), some (.int what), some (.ref (42 + 3 * k)), some (.int a.1), some (.int a.2), some (.int (nI s))] [] (px_CH Z N F, [])
  | s, a, Z, hs, H => by
    refine px_PW.steps kt_72.2 3 rfl ?_
    refine px_PW.br (fun c0 => ?_) (fun c0 => ?_)
    · have c0 : (nI s) < 1 := of_decide_eq_true c0
      have c0 : s < 1 := (nI_ltI (a := s) (b := 1) (by omega) (by omega)).mp c0
      obtain rfl : s = 0 := by omega
      exact H Z px_same.rf
    · have c0 : ¬ ((nI s) < 1) := of_decide_eq_false c0
      have c0 : ¬ (s < 1) := fun q => c0 ((nI_ltI (a := s) (b := 1) (by omega) (by omega)).mpr q)
      refine px_PW.steps kt_72.2 3 rfl ?_
      refine px_PW.callV kt_72.2 rfl rfl rfl rfl (rr_lay (N := N) hw.1 _ _) (by decide) (fun v h1 q => ?_)
      obtain ⟨rfl, rfl⟩ := q
      refine px_PW.steps kt_72.2 2 rfl ?_
      refine px_PW.getf kt_72.2 rfl (ch_sh hk) rfl ?_
      refine px_PW.callV kt_72.2 rfl rfl rfl rfl (cc_rff (Z := (c_lay Z F 0 (nI s))) hk hS hS24 (hP s (by omega) hs).1 (hP s (by omega) hs).2) (by decide) (fun v h1 q => ?_)
      obtain ⟨rfl, rfl⟩ := q
      refine px_PW.steps kt_72.2 1 rfl ?_
      refine px_PW.getf kt_72.2 rfl (ch_sh hk) rfl ?_
      refine px_PW.callV kt_72.2 rfl rfl (ch_isO (by omega)) rfl (nb_size (q := 19 + k) (by omega)) (by decide) (fun v h1 q => ?_)
      obtain ⟨rfl, rfl⟩ := q
      refine px_PW.steps kt_72.2 1 rfl ?_
      refine px_PW.br (fun c1 => ?_) (fun c1 => ?_)
      · have c1 : ¬ ((nI (zz_run (s_rff (c_lay Z F 0 (nI s)) F k) (min S (P s)) 0)) = (N (19 + k))) := of_decide_eq_false (px_nt c1)
        refine px_PW.steps kt_72.2 2 rfl ?_
        obtain ⟨t, ht⟩ : ∃ t, s = t + 1 := ⟨s - 1, by omega⟩
        have e0 : s_fit (s_fitg S P F k) s a = s_fit (s_fitg S P F k) t a := by subst ht; exact congrArg (s_fit (s_fitg S P F k) t) (if_neg (fun q => c1 ((of_decide_eq_true q).trans hS.symm)))
        have g := c_fit_loop hw hk hS hS24 hP hT hT200 (what := what) (Q := Q) t a (c_lay Z F 0 (nI s)) (by omega) (fun Z2 hZ => by have h := H Z2 ((c_lay_same Z F _ _).tr hZ); rw [e0] at h; exact h)
        have e : nI s + -1 = nI t := by rw [ht]; exact zz_dec t
        refine px_PW.lc (lv' := [some (.ref 0), some (.int (nI k)), some (.int what), some (.ref (42 + 3 * k)), some (.int a.1), some (.int a.2), some (.int (nI t))]) (by rw [← e]; rfl) ?_
        exact g
      · have c1 : (nI (zz_run (s_rff (c_lay Z F 0 (nI s)) F k) (min S (P s)) 0)) = (N (19 + k)) := of_decide_eq_true (px_nf c1)
        refine px_PW.steps kt_72.2 5 rfl ?_
        obtain ⟨t, ht⟩ : ∃ t, s = t + 1 := ⟨s - 1, by omega⟩
        have e0 : s_fit (s_fitg S P F k) s a = s_fit (s_fitg S P F k) t (a.1 + 1, nI s) := by subst ht; exact congrArg (s_fit (s_fitg S P F k) t) (if_pos (decide_eq_true (c1.trans hS)))
        have g := c_fit_loop hw hk hS hS24 hP hT hT200 (what := what) (Q := Q) t (a.1 + 1, nI s) (c_lay Z F 0 (nI s)) (by omega) (fun Z2 hZ => by have h := H Z2 ((c_lay_same Z F _ _).tr hZ); rw [e0] at h; exact h)
        have e : nI s + -1 = nI t := by rw [ht]; exact zz_dec t
        refine px_PW.lc (lv' := [some (.ref 0), some (.int (nI k)), some (.int what), some (.ref (42 + 3 * k)), some (.int (a.1 + 1, nI s).1), some (.int (a.1 + 1, nI s).2), some (.int (nI t))]) (by rw [← e]; rfl) ?_
        exact g
def s_fits (S T : Nat) (P : Nat → Nat) (Z N : Nat → Int32) (F : Nat → Nat → Int32) (k : Nat) (what : Int32) : Int32 := (if what < 0 then (-1000000000 - 1) else (if what ≤ 1 then (if (Z (2 + k)) = 0 then (-1000000000 - 2) else (if what = 0 then (s_fit (s_fitg S P F k) T (0, 0)).1 else (if (s_fit (s_fitg S P F k) T (0, 0)).1 ≤ 0 then (-1000000000 - 2) else (s_fit (s_fitg S P F k) T (0, 0)).2))) else (-1000000000 - 1)))
theorem kc_fits {Z N : Nat → Int32} {F : Nat → Nat → Int32} (hw : px_cw N) (k : Nat) {S T : Nat} {P : Nat → Nat} (hk : k < 4) (hS : N (19 + k) = nI S) (hS24 : S ≤ 24) (hP : ∀ s : Nat, 1 ≤ s → s ≤ T → c_prow F 0 (nI s) = nI (P s) ∧ P s < 1000) (hT : F 0 1 = nI T) (hT200 : T ≤ 200) (what : Int32) : px_PM 5 72 [.ref 0, .int (nI k), .int what] (px_CH Z N F, []) (fun r h' => r = some (.int (s_fits S T P Z N F k what)) ∧ ∃ Z' N' F', px_sc Z N F Z' N' F' ∧ h' = (px_CH Z' N' F', [])) := by
  refine px_PM.start (nL := 7) (code := pc_72) rfl rfl ?_
  refine px_PW.steps kt_72.2 2 rfl ?_
  refine px_PW.callV kt_72.2 rfl rfl rfl rfl (cc_sheetAt k hk) (by decide) (fun v h1 q => ?_)
  obtain ⟨rfl, rfl⟩ := q
  refine px_PW.steps kt_72.2 5 rfl ?_
  refine px_PW.br (fun c0 => ?_) (fun c0 => ?_)
  · have c0 : what < 0 := of_decide_eq_true c0
    refine px_PW.steps kt_72.2 2 rfl ?_
    refine px_PW.callV kt_72.2 rfl rfl rfl rfl (cc_error hw.2.2.1 1 (by decide)) (by decide) (fun v h1 q => ?_)
    obtain ⟨rfl, rfl⟩ := q
    refine px_PW.ret kt_72.2 rfl rfl ?_
    have E : s_fits S T P Z N F k what = (-1000000000 - 1) := if_pos c0
    rw [E]
    exact ⟨rfl, _, _, _, px_sc.err, rfl⟩
  · have c0 : ¬ (what < 0) := of_decide_eq_false c0
    refine px_PW.steps kt_72.2 3 rfl ?_
    refine px_PW.br (fun c1 => ?_) (fun c1 => ?_)
    · have c1 : what ≤ 1 := of_decide_eq_true c1
      refine px_PW.steps kt_72.2 1 rfl ?_
      refine px_PW.callV kt_72.2 rfl rfl (ch_isSh hk) rfl (cc_isMissing hk) (by decide) (fun v h1 q => ?_)
      obtain ⟨rfl, rfl⟩ := q
      refine px_PW.steps kt_72.2 1 rfl ?_
      refine px_PW.br (fun c2 => ?_) (fun c2 => ?_)
      · have c2 : ¬ ((Z (2 + k)) = 0) := px_b1z (of_decide_eq_true c2)
        refine px_PW.steps kt_72.2 6 rfl ?_
        refine px_PW.callV kt_72.2 rfl rfl rfl rfl (cc_is (N := N) hw.1 1 (by decide)) (by decide) (fun v h1 q => ?_)
        obtain ⟨rfl, rfl⟩ := q
        refine px_PW.steps kt_72.2 1 rfl ?_
        refine px_PW.lc (lv' := [some (.ref 0), some (.int (nI k)), some (.int what), some (.ref (42 + 3 * k)), some (.int ((0 : Int32), (0 : Int32)).1), some (.int ((0 : Int32), (0 : Int32)).2), some (.int (nI T))]) (by rw [← hT]; rfl) ?_
        refine c_fit_loop hw hk hS hS24 hP hT hT200 T (0, 0) Z (Nat.le_refl T) (fun Z2 hZ => ?_)
        refine px_PW.steps kt_72.2 2 rfl ?_
        refine px_PW.br (fun c3 => ?_) (fun c3 => ?_)
        · have c3 : ¬ (what = 0) := of_decide_eq_false (px_nt c3)
          refine px_PW.steps kt_72.2 2 rfl ?_
          refine px_PW.br (fun c4 => ?_) (fun c4 => ?_)
          · have c4 : (s_fit (s_fitg S P F k) T (0, 0)).1 ≤ 0 := of_decide_eq_true c4
            refine px_PW.steps kt_72.2 2 rfl ?_
            refine px_PW.callV kt_72.2 rfl rfl rfl rfl (cc_error hw.2.2.1 2 (by decide)) (by decide) (fun v h1 q => ?_)
            obtain ⟨rfl, rfl⟩ := q
            refine px_PW.ret kt_72.2 rfl rfl ?_
            have E : s_fits S T P Z N F k what = (-1000000000 - 2) := (if_neg c0).trans ((if_pos c1).trans ((if_neg c2).trans ((if_neg c3).trans (if_pos c4))))
            rw [E]
            exact ⟨rfl, _, _, _, (px_sc.z hZ).tr (px_sc.err), rfl⟩
          · have c4 : ¬ ((s_fit (s_fitg S P F k) T (0, 0)).1 ≤ 0) := of_decide_eq_false c4
            refine px_PW.steps kt_72.2 2 rfl ?_
            refine px_PW.ret kt_72.2 rfl rfl ?_
            have E : s_fits S T P Z N F k what = (s_fit (s_fitg S P F k) T (0, 0)).2 := (if_neg c0).trans ((if_pos c1).trans ((if_neg c2).trans ((if_neg c3).trans (if_neg c4))))
            rw [E]
            exact ⟨rfl, _, _, _, px_sc.z hZ, rfl⟩
        · have c3 : what = 0 := of_decide_eq_true (px_nf c3)
          refine px_PW.steps kt_72.2 1 rfl ?_
          refine px_PW.ret kt_72.2 rfl rfl ?_
          have E : s_fits S T P Z N F k what = (s_fit (s_fitg S P F k) T (0, 0)).1 := (if_neg c0).trans ((if_pos c1).trans ((if_neg c2).trans (if_pos c3)))
          rw [E]
          exact ⟨rfl, _, _, _, px_sc.z hZ, rfl⟩
      · have c2 : (Z (2 + k)) = 0 := px_b1n (of_decide_eq_false c2)
        refine px_PW.steps kt_72.2 2 rfl ?_
        refine px_PW.callV kt_72.2 rfl rfl rfl rfl (cc_error hw.2.2.1 2 (by decide)) (by decide) (fun v h1 q => ?_)
        obtain ⟨rfl, rfl⟩ := q
        refine px_PW.ret kt_72.2 rfl rfl ?_
        have E : s_fits S T P Z N F k what = (-1000000000 - 2) := (if_neg c0).trans ((if_pos c1).trans (if_pos c2))
        rw [E]
        exact ⟨rfl, _, _, _, px_sc.err, rfl⟩
    · have c1 : ¬ (what ≤ 1) := of_decide_eq_false c1
      refine px_PW.steps kt_72.2 2 rfl ?_
      refine px_PW.callV kt_72.2 rfl rfl rfl rfl (cc_error hw.2.2.1 1 (by decide)) (by decide) (fun v h1 q => ?_)
      obtain ⟨rfl, rfl⟩ := q
      refine px_PW.ret kt_72.2 rfl rfl ?_
      have E : s_fits S T P Z N F k what = (-1000000000 - 1) := (if_neg c0).trans (if_neg c1)
      rw [E]
      exact ⟨rfl, _, _, _, px_sc.err, rfl⟩
def s_fitsB (Z N : Nat → Int32) (F : Nat → Nat → Int32) (sheet : Int32) (what : Int32) : Int32 := (-1000000000 - 1)
theorem kc_fitsB {Z N : Nat → Int32} {F : Nat → Nat → Int32} (hw : px_cw N) (sheet : Int32) (what : Int32) (hb : sheet < 0 ∨ 4 ≤ sheet) : px_PM 3 72 [.ref 0, .int sheet, .int what] (px_CH Z N F, []) (fun r h' => r = some (.int (s_fitsB Z N F sheet what)) ∧ ∃ Z' N' F', px_sc Z N F Z' N' F' ∧ h' = (px_CH Z' N' F', [])) := by
  refine px_PM.start (nL := 7) (code := pc_72) rfl rfl ?_
  refine px_PW.steps kt_72.2 2 rfl ?_
  refine px_PW.callV kt_72.2 rfl rfl rfl rfl (cc_sheetAtB _ hb) (by decide) (fun v h1 q => ?_)
  obtain ⟨rfl, rfl⟩ := q
  refine px_PW.steps kt_72.2 5 rfl ?_
  refine px_PW.callV kt_72.2 rfl rfl rfl rfl (cc_error hw.2.2.1 1 (by decide)) (by decide) (fun v h1 q => ?_)
  obtain ⟨rfl, rfl⟩ := q
  refine px_PW.ret kt_72.2 rfl rfl ?_
  have E : s_fitsB Z N F sheet what = (-1000000000 - 1) := rfl
  rw [E]
  exact ⟨rfl, _, _, _, px_sc.err, rfl⟩
/-- m more STARTS from k on: the best, its narrowest piece, its CUTS -/
def s_bst (nar cut : Nat → Int32) : Nat → Nat → Nat × Int32 × Int32 → Nat × Int32 × Int32
  | 0, _, a => a
  | m + 1, k, a => s_bst nar cut m (k + 1) (if nar k < a.2.1 then a else if a.2.1 < nar k then (k, nar k, cut k) else if cut k < a.2.2 then (k, nar k, cut k) else a)
theorem c_bst_loop {N : Nat → Int32} {F : Nat → Nat → Int32} (hw : px_cw N) {R T : Nat} (hR : F 0 4 = nI R) (hR8 : R ≤ 8) (hT : F 0 1 = nI T) (hT200 : T ≤ 200) {Q : Option Value → px_H → Prop} : ∀ (m k : Nat) (a : Nat × Int32 × Int32) (Z : Nat → Int32) (o5 o6 : Option Value), k + m = T + 1 → (∀ (Z' : Nat → Int32) (o4 : Nat) (o5 o6 : Option Value), px_same Z Z' → px_PW 5 pc_105 Q 79 [some (.ref 0), some (.int (nI (s_bst (fun s => c_nar F R (nI s)) (fun s => c_cuts F R (nI s)) m k a).1)), some (.int (s_bst (fun s => c_nar F R (nI s)) (fun s => c_cuts F R (nI s)) m k a).2.1), some (.int (s_bst (fun s => c_nar F R (nI s)) (fun s => c_cuts F R (nI s)) m k a).2.2), some (.int (nI o4)), o5, o6] [] (px_CH Z' N F, [])) → px_PW 5 pc_105 Q 17 [some (.ref 0), some (.int (nI a.1)), some (.int a.2.1), some (.int a.2.2), some (.int (nI k)), o5, o6] [] (px_CH Z N F, [])
  | m, k, a, Z, o5, o6, hk, H => by
    refine px_PW.steps kt_105.2 3 rfl ?_
    refine px_PW.callV kt_105.2 rfl rfl rfl rfl (cc_is (N := N) hw.1 1 (by decide)) (by decide) (fun v h1 q => ?_)
    obtain ⟨rfl, rfl⟩ := q
    refine px_PW.steps kt_105.2 1 rfl ?_
    refine px_PW.br (fun c0 => ?_) (fun c0 => ?_)
    · have c0 : ((F 0) 1) < (nI k) := of_decide_eq_true c0
      have c0 : T < k := by rw [hT] at c0; exact (nI_ltI (a := T) (b := k) (by omega) (by omega)).mp c0
      obtain rfl : m = 0 := by omega
      exact H Z k _ _ px_same.rf
    · have c0 : ¬ (((F 0) 1) < (nI k)) := of_decide_eq_false c0
      have c0 : ¬ (T < k) := fun q => c0 (by rw [hT]; exact (nI_ltI (a := T) (b := k) (by omega) (by omega)).mpr q)
      obtain ⟨m2, rfl⟩ : ∃ m2, m = m2 + 1 := ⟨m - 1, by omega⟩
      refine px_PW.steps kt_105.2 2 rfl ?_
      refine px_PW.callV kt_105.2 rfl rfl rfl rfl (cb_nar hw.1 hR hR8 _) (by decide) (fun v h1 q => ?_)
      obtain ⟨rfl, Z100, hZ100, rfl⟩ := q
      refine px_PW.steps kt_105.2 4 rfl ?_
      refine px_PW.br (fun c1 => ?_) (fun c1 => ?_)
      · have c1 : a.2.1 ≤ (c_nar F R (nI k)) := of_decide_eq_true c1
        refine px_PW.steps kt_105.2 2 rfl ?_
        refine px_PW.callV kt_105.2 rfl rfl rfl rfl (cb_cuts hw.1 hR hR8 _) (by decide) (fun v h1 q => ?_)
        obtain ⟨rfl, Z101, hZ101, rfl⟩ := q
        refine px_PW.steps kt_105.2 4 rfl ?_
        refine px_PW.br (fun c2 => ?_) (fun c2 => ?_)
        · have c2 : a.2.1 < (c_nar F R (nI k)) := of_decide_eq_true c2
          refine px_PW.steps kt_105.2 8 rfl ?_
          have e0 : s_bst (fun s => c_nar F R (nI s)) (fun s => c_cuts F R (nI s)) (m2 + 1) k a = s_bst (fun s => c_nar F R (nI s)) (fun s => c_cuts F R (nI s)) m2 (k + 1) (k, c_nar F R (nI k), c_cuts F R (nI k)) := congrArg (s_bst (fun s => c_nar F R (nI s)) (fun s => c_cuts F R (nI s)) m2 (k + 1)) ((if_neg (Int32.not_lt.mpr c1)).trans (if_pos c2))
          have g := c_bst_loop hw hR hR8 hT hT200 (Q := Q) m2 (k + 1) (k, c_nar F R (nI k), c_cuts F R (nI k)) Z101 (some (.int (c_nar F R (nI k)))) (some (.int (c_cuts F R (nI k)))) (by omega) (fun Z9 o4 o5 o6 hZ => by have h := H Z9 o4 o5 o6 ((hZ100.tr hZ101).tr hZ); rw [e0] at h; exact h)
          rw [nI_succ k] at g
          exact g
        · have c2 : ¬ (a.2.1 < (c_nar F R (nI k))) := of_decide_eq_false c2
          refine px_PW.steps kt_105.2 3 rfl ?_
          refine px_PW.br (fun c3 => ?_) (fun c3 => ?_)
          · have c3 : a.2.2 ≤ (c_cuts F R (nI k)) := of_decide_eq_true c3
            refine px_PW.steps kt_105.2 2 rfl ?_
            have e0 : s_bst (fun s => c_nar F R (nI s)) (fun s => c_cuts F R (nI s)) (m2 + 1) k a = s_bst (fun s => c_nar F R (nI s)) (fun s => c_cuts F R (nI s)) m2 (k + 1) a := congrArg (s_bst (fun s => c_nar F R (nI s)) (fun s => c_cuts F R (nI s)) m2 (k + 1)) ((if_neg (Int32.not_lt.mpr c1)).trans ((if_neg c2).trans (if_neg (Int32.not_lt.mpr c3))))
            have g := c_bst_loop hw hR hR8 hT hT200 (Q := Q) m2 (k + 1) a Z101 (some (.int (c_nar F R (nI k)))) (some (.int (c_cuts F R (nI k)))) (by omega) (fun Z9 o4 o5 o6 hZ => by have h := H Z9 o4 o5 o6 ((hZ100.tr hZ101).tr hZ); rw [e0] at h; exact h)
            rw [nI_succ k] at g
            exact g
          · have c3 : ¬ (a.2.2 ≤ (c_cuts F R (nI k))) := of_decide_eq_false c3
            refine px_PW.steps kt_105.2 8 rfl ?_
            have e0 : s_bst (fun s => c_nar F R (nI s)) (fun s => c_cuts F R (nI s)) (m2 + 1) k a = s_bst (fun s => c_nar F R (nI s)) (fun s => c_cuts F R (nI s)) m2 (k + 1) (k, c_nar F R (nI k), c_cuts F R (nI k)) := congrArg (s_bst (fun s => c_nar F R (nI s)) (fun s => c_cuts F R (nI s)) m2 (k + 1)) ((if_neg (Int32.not_lt.mpr c1)).trans ((if_neg c2).trans (if_pos (Int32.not_le.mp c3))))
            have g := c_bst_loop hw hR hR8 hT hT200 (Q := Q) m2 (k + 1) (k, c_nar F R (nI k), c_cuts F R (nI k)) Z101 (some (.int (c_nar F R (nI k)))) (some (.int (c_cuts F R (nI k)))) (by omega) (fun Z9 o4 o5 o6 hZ => by have h := H Z9 o4 o5 o6 ((hZ100.tr hZ101).tr hZ); rw [e0] at h; exact h)
            rw [nI_succ k] at g
            exact g
      · have c1 : ¬ (a.2.1 ≤ (c_nar F R (nI k))) := of_decide_eq_false c1
        refine px_PW.steps kt_105.2 3 rfl ?_
        have e0 : s_bst (fun s => c_nar F R (nI s)) (fun s => c_cuts F R (nI s)) (m2 + 1) k a = s_bst (fun s => c_nar F R (nI s)) (fun s => c_cuts F R (nI s)) m2 (k + 1) a := congrArg (s_bst (fun s => c_nar F R (nI s)) (fun s => c_cuts F R (nI s)) m2 (k + 1)) (if_pos (Int32.not_le.mp c1))
        have g := c_bst_loop hw hR hR8 hT hT200 (Q := Q) m2 (k + 1) a Z100 (some (.int (c_nar F R (nI k)))) (o6) (by omega) (fun Z9 o4 o5 o6 hZ => by have h := H Z9 o4 o5 o6 (hZ100.tr hZ); rw [e0] at h; exact h)
        rw [nI_succ k] at g
        exact g
theorem cc_bst {Z N : Nat → Int32} {F : Nat → Nat → Int32} (hw : px_cw N) {R T : Nat} (hR : F 0 4 = nI R) (hR8 : R ≤ 8) (hT : F 0 1 = nI T) (hT200 : T ≤ 200) (hT1 : 1 ≤ T) : px_PM 6 105 [.ref 0] (px_CH Z N F, []) (fun r h' => r = some (.int (nI (s_bst (fun s => c_nar F R (nI s)) (fun s => c_cuts F R (nI s)) (T - 1) 2 (1, c_nar F R 1, c_cuts F R 1)).1)) ∧ ∃ Z', px_same Z Z' ∧ h' = (px_CH Z' N F, [])) := by
  refine px_PM.start (nL := 7) (code := pc_105) rfl rfl ?_
  refine px_PW.steps kt_105.2 4 rfl ?_
  refine px_PW.callV kt_105.2 rfl rfl rfl rfl (cb_nar hw.1 hR hR8 _) (by decide) (fun v h1 q => ?_)
  obtain ⟨rfl, Z100, hZ100, rfl⟩ := q
  refine px_PW.steps kt_105.2 3 rfl ?_
  refine px_PW.callV kt_105.2 rfl rfl rfl rfl (cb_cuts hw.1 hR hR8 _) (by decide) (fun v h1 q => ?_)
  obtain ⟨rfl, Z101, hZ101, rfl⟩ := q
  refine px_PW.steps kt_105.2 3 rfl ?_
  refine c_bst_loop hw hR hR8 hT hT200 (T - 1) 2 (1, c_nar F R 1, c_cuts F R 1) Z101 none none (by omega) (fun Z9 o4 o5 o6 hZ => ?_)
  refine px_PW.steps kt_105.2 1 rfl ?_
  exact px_PW.ret kt_105.2 rfl rfl ⟨rfl, Z9, ((hZ100.tr hZ101).tr hZ), rfl⟩
def s_best (R T : Nat) (Z N : Nat → Int32) (F : Nat → Nat → Int32) (what : Int32) : Int32 := (if what < 0 then (-1000000000 - 1) else (if what ≤ 2 then (if what = 0 then (nI (s_bst (fun s => c_nar F R (nI s)) (fun s => c_cuts F R (nI s)) (T - 1) 2 (1, c_nar F R 1, c_cuts F R 1)).1) else (if what = 1 then (c_nar F R (nI (s_bst (fun s => c_nar F R (nI s)) (fun s => c_cuts F R (nI s)) (T - 1) 2 (1, c_nar F R 1, c_cuts F R 1)).1)) else (c_cuts F R (nI (s_bst (fun s => c_nar F R (nI s)) (fun s => c_cuts F R (nI s)) (T - 1) 2 (1, c_nar F R 1, c_cuts F R 1)).1)))) else (-1000000000 - 1)))
theorem kc_best {Z N : Nat → Int32} {F : Nat → Nat → Int32} (hw : px_cw N) {R T : Nat} (hR : F 0 4 = nI R) (hR8 : R ≤ 8) (hT : F 0 1 = nI T) (hT200 : T ≤ 200) (hT1 : 1 ≤ T) (what : Int32) : px_PM 7 67 [.ref 0, .int what] (px_CH Z N F, []) (fun r h' => r = some (.int (s_best R T Z N F what)) ∧ ∃ Z' N' F', px_sc Z N F Z' N' F' ∧ h' = (px_CH Z' N' F', [])) := by
  refine px_PM.start (nL := 3) (code := pc_67) rfl rfl ?_
  refine px_PW.steps kt_67.2 2 rfl ?_
  refine px_PW.br (fun c0 => ?_) (fun c0 => ?_)
  · have c0 : what < 0 := of_decide_eq_true c0
    refine px_PW.steps kt_67.2 2 rfl ?_
    refine px_PW.callV kt_67.2 rfl rfl rfl rfl (cc_error hw.2.2.1 1 (by decide)) (by decide) (fun v h1 q => ?_)
    obtain ⟨rfl, rfl⟩ := q
    refine px_PW.ret kt_67.2 rfl rfl ?_
    have E : s_best R T Z N F what = (-1000000000 - 1) := if_pos c0
    rw [E]
    exact ⟨rfl, _, _, _, px_sc.err, rfl⟩
  · have c0 : ¬ (what < 0) := of_decide_eq_false c0
    refine px_PW.steps kt_67.2 3 rfl ?_
    refine px_PW.br (fun c1 => ?_) (fun c1 => ?_)
    · have c1 : what ≤ 2 := of_decide_eq_true c1
      refine px_PW.steps kt_67.2 1 rfl ?_
      refine px_PW.callV kt_67.2 rfl rfl rfl rfl (cc_bst hw hR hR8 hT hT200 hT1) (by decide) (fun v h1 q => ?_)
      obtain ⟨rfl, Z200, hZ200, rfl⟩ := q
      refine px_PW.steps kt_67.2 3 rfl ?_
      refine px_PW.br (fun c2 => ?_) (fun c2 => ?_)
      · have c2 : ¬ (what = 0) := of_decide_eq_false (px_nt c2)
        refine px_PW.steps kt_67.2 3 rfl ?_
        refine px_PW.br (fun c3 => ?_) (fun c3 => ?_)
        · have c3 : ¬ (what = 1) := of_decide_eq_false (px_nt c3)
          refine px_PW.steps kt_67.2 2 rfl ?_
          refine px_PW.callV kt_67.2 rfl rfl rfl rfl (cb_cuts hw.1 hR hR8 _) (by decide) (fun v h1 q => ?_)
          obtain ⟨rfl, Z101, hZ101, rfl⟩ := q
          refine px_PW.ret kt_67.2 rfl rfl ?_
          have E : s_best R T Z N F what = (c_cuts F R (nI (s_bst (fun s => c_nar F R (nI s)) (fun s => c_cuts F R (nI s)) (T - 1) 2 (1, c_nar F R 1, c_cuts F R 1)).1)) := (if_neg c0).trans ((if_pos c1).trans ((if_neg c2).trans (if_neg c3)))
          rw [E]
          exact ⟨rfl, _, _, _, (px_sc.z hZ200).tr (px_sc.z hZ101), rfl⟩
        · have c3 : what = 1 := of_decide_eq_true (px_nf c3)
          refine px_PW.steps kt_67.2 2 rfl ?_
          refine px_PW.callV kt_67.2 rfl rfl rfl rfl (cb_nar hw.1 hR hR8 _) (by decide) (fun v h1 q => ?_)
          obtain ⟨rfl, Z101, hZ101, rfl⟩ := q
          refine px_PW.steps kt_67.2 1 rfl ?_
          refine px_PW.ret kt_67.2 rfl rfl ?_
          have E : s_best R T Z N F what = (c_nar F R (nI (s_bst (fun s => c_nar F R (nI s)) (fun s => c_cuts F R (nI s)) (T - 1) 2 (1, c_nar F R 1, c_cuts F R 1)).1)) := (if_neg c0).trans ((if_pos c1).trans ((if_neg c2).trans (if_pos c3)))
          rw [E]
          exact ⟨rfl, _, _, _, (px_sc.z hZ200).tr (px_sc.z hZ101), rfl⟩
      · have c2 : what = 0 := of_decide_eq_true (px_nf c2)
        refine px_PW.steps kt_67.2 1 rfl ?_
        refine px_PW.ret kt_67.2 rfl rfl ?_
        have E : s_best R T Z N F what = (nI (s_bst (fun s => c_nar F R (nI s)) (fun s => c_cuts F R (nI s)) (T - 1) 2 (1, c_nar F R 1, c_cuts F R 1)).1) := (if_neg c0).trans ((if_pos c1).trans (if_pos c2))
        rw [E]
        exact ⟨rfl, _, _, _, px_sc.z hZ200, rfl⟩
    · have c1 : ¬ (what ≤ 2) := of_decide_eq_false c1
      refine px_PW.steps kt_67.2 2 rfl ?_
      refine px_PW.callV kt_67.2 rfl rfl rfl rfl (cc_error hw.2.2.1 1 (by decide)) (by decide) (fun v h1 q => ?_)
      obtain ⟨rfl, rfl⟩ := q
      refine px_PW.ret kt_67.2 rfl rfl ?_
      have E : s_best R T Z N F what = (-1000000000 - 1) := (if_neg c0).trans (if_neg c1)
      rw [E]
      exact ⟨rfl, _, _, _, px_sc.err, rfl⟩
/-- of m STARTS from k on those by which the narrowest piece is v or more -/
def s_odd (nar : Nat → Int32) (v : Int32) : Nat → Nat → Nat → Nat
  | 0, _, n => n
  | m + 1, k, n => s_odd nar v m (k + 1) (if nar k < v then n else n + 1)
theorem s_odd_le (nar : Nat → Int32) (v : Int32) : ∀ (m k n : Nat), s_odd nar v m k n ≤ n + m
  | 0, _, n => Nat.le_refl n
  | m + 1, k, n => by
    unfold s_odd
    split
    · have h := s_odd_le nar v m (k + 1) n; omega
    · have h := s_odd_le nar v m (k + 1) (n + 1); omega
theorem c_odd_loop {N : Nat → Int32} {F : Nat → Nat → Int32} (hw : px_cw N) {R T : Nat} (hR : F 0 4 = nI R) (hR8 : R ≤ 8) (hT : F 0 1 = nI T) (hT200 : T ≤ 200) {v part : Int32} {Q : Option Value → px_H → Prop} : ∀ (m k n : Nat) (Z : Nat → Int32), k + m = T + 1 → (∀ (Z' : Nat → Int32) (o4 : Nat), px_same Z Z' → px_PW 5 pc_71 Q 60 [some (.ref 0), some (.int v), some (.int part), some (.int (nI (s_odd (fun s => c_nar F R (nI s)) v m k n))), some (.int (nI o4))] [] (px_CH Z' N F, [])) → px_PW 5 pc_71 Q 31 [some (.ref 0), some (.int v), some (.int part), some (.int (nI n)), some (.int (nI k))] [] (px_CH Z N F, [])
  | m, k, n, Z, hk, H => by
    refine px_PW.steps kt_71.2 3 rfl ?_
    refine px_PW.callV kt_71.2 rfl rfl rfl rfl (cc_is (N := N) hw.1 1 (by decide)) (by decide) (fun v h1 q => ?_)
    obtain ⟨rfl, rfl⟩ := q
    refine px_PW.steps kt_71.2 1 rfl ?_
    refine px_PW.br (fun c0 => ?_) (fun c0 => ?_)
    · have c0 : ((F 0) 1) < (nI k) := of_decide_eq_true c0
      have c0 : T < k := by rw [hT] at c0; exact (nI_ltI (a := T) (b := k) (by omega) (by omega)).mp c0
      obtain rfl : m = 0 := by omega
      exact H Z k px_same.rf
    · have c0 : ¬ (((F 0) 1) < (nI k)) := of_decide_eq_false c0
      have c0 : ¬ (T < k) := fun q => c0 (by rw [hT]; exact (nI_ltI (a := T) (b := k) (by omega) (by omega)).mpr q)
      obtain ⟨m2, rfl⟩ : ∃ m2, m = m2 + 1 := ⟨m - 1, by omega⟩
      refine px_PW.steps kt_71.2 2 rfl ?_
      refine px_PW.callV kt_71.2 rfl rfl rfl rfl (cb_nar hw.1 hR hR8 _) (by decide) (fun v h1 q => ?_)
      obtain ⟨rfl, Z100, hZ100, rfl⟩ := q
      refine px_PW.steps kt_71.2 2 rfl ?_
      refine px_PW.br (fun c1 => ?_) (fun c1 => ?_)
      · have c1 : (c_nar F R (nI k)) < v := of_decide_eq_true c1
        refine px_PW.steps kt_71.2 2 rfl ?_
        have e0 : s_odd (fun s => c_nar F R (nI s)) v (m2 + 1) k n = s_odd (fun s => c_nar F R (nI s)) v m2 (k + 1) n := congrArg (s_odd (fun s => c_nar F R (nI s)) v m2 (k + 1)) (if_pos c1)
        have g := c_odd_loop hw hR hR8 hT hT200 (v := v) (part := part) (Q := Q) m2 (k + 1) n Z100 (by omega) (fun Z9 o4 hZ => by have h := H Z9 o4 (hZ100.tr hZ); rw [e0] at h; exact h)
        rw [nI_succ k] at g
        exact g
      · have c1 : ¬ ((c_nar F R (nI k)) < v) := of_decide_eq_false c1
        refine px_PW.steps kt_71.2 3 rfl ?_
        have e0 : s_odd (fun s => c_nar F R (nI s)) v (m2 + 1) k n = s_odd (fun s => c_nar F R (nI s)) v m2 (k + 1) (n + 1) := congrArg (s_odd (fun s => c_nar F R (nI s)) v m2 (k + 1)) (if_neg c1)
        have g := c_odd_loop hw hR hR8 hT hT200 (v := v) (part := part) (Q := Q) m2 (k + 1) (n + 1) Z100 (by omega) (fun Z9 o4 hZ => by have h := H Z9 o4 (hZ100.tr hZ); rw [e0] at h; exact h)
        rw [nI_succ k, nI_succ n] at g
        exact g
theorem px_cdx {x y : Nat} (hx : x < 1000) (hy : y < 1000) {a b : Int32} {h : px_H} (ha : a = nI x) (hb : b = nI y) : px_PM 2 99 [.int a, .int b] h (fun r h' => r = some (.int (nI (zz_cd x y y))) ∧ h' = h) := by
  subst ha hb
  exact cc_cd hx hy h
def s_odds (R T : Nat) (Z N : Nat → Int32) (F : Nat → Nat → Int32) (v : Int32) (part : Int32) : Int32 := (if v < 0 then (-1000000000 - 1) else (if 200 < v then (-1000000000 - 1) else (if part < 0 then (-1000000000 - 1) else (if part ≤ 1 then (if part = 0 then (i_quo (nI (s_odd (fun s => c_nar F R (nI s)) v T 1 0)) (nI (zz_cd (s_odd (fun s => c_nar F R (nI s)) v T 1 0) T T))) else (i_quo ((F 0) 1) (nI (zz_cd (s_odd (fun s => c_nar F R (nI s)) v T 1 0) T T)))) else (-1000000000 - 1)))))
theorem kc_odds {Z N : Nat → Int32} {F : Nat → Nat → Int32} (hw : px_cw N) {R T : Nat} (hR : F 0 4 = nI R) (hR8 : R ≤ 8) (hT : F 0 1 = nI T) (hT200 : T ≤ 200) (v : Int32) (part : Int32) : px_PM 6 71 [.ref 0, .int v, .int part] (px_CH Z N F, []) (fun r h' => r = some (.int (s_odds R T Z N F v part)) ∧ ∃ Z' N' F', px_sc Z N F Z' N' F' ∧ h' = (px_CH Z' N' F', [])) := by
  refine px_PM.start (nL := 5) (code := pc_71) rfl rfl ?_
  refine px_PW.steps kt_71.2 2 rfl ?_
  refine px_PW.br (fun c0 => ?_) (fun c0 => ?_)
  · have c0 : v < 0 := of_decide_eq_true c0
    refine px_PW.steps kt_71.2 2 rfl ?_
    refine px_PW.callV kt_71.2 rfl rfl rfl rfl (cc_error hw.2.2.1 1 (by decide)) (by decide) (fun v h1 q => ?_)
    obtain ⟨rfl, rfl⟩ := q
    refine px_PW.ret kt_71.2 rfl rfl ?_
    have E : s_odds R T Z N F v part = (-1000000000 - 1) := if_pos c0
    rw [E]
    exact ⟨rfl, _, _, _, px_sc.err, rfl⟩
  · have c0 : ¬ (v < 0) := of_decide_eq_false c0
    refine px_PW.steps kt_71.2 3 rfl ?_
    refine px_PW.br (fun c1 => ?_) (fun c1 => ?_)
    · have c1 : 200 < v := of_decide_eq_true c1
      refine px_PW.steps kt_71.2 2 rfl ?_
      refine px_PW.callV kt_71.2 rfl rfl rfl rfl (cc_error hw.2.2.1 1 (by decide)) (by decide) (fun v h1 q => ?_)
      obtain ⟨rfl, rfl⟩ := q
      refine px_PW.ret kt_71.2 rfl rfl ?_
      have E : s_odds R T Z N F v part = (-1000000000 - 1) := (if_neg c0).trans (if_pos c1)
      rw [E]
      exact ⟨rfl, _, _, _, px_sc.err, rfl⟩
    · have c1 : ¬ (200 < v) := of_decide_eq_false c1
      refine px_PW.steps kt_71.2 2 rfl ?_
      refine px_PW.br (fun c2 => ?_) (fun c2 => ?_)
      · have c2 : part < 0 := of_decide_eq_true c2
        refine px_PW.steps kt_71.2 2 rfl ?_
        refine px_PW.callV kt_71.2 rfl rfl rfl rfl (cc_error hw.2.2.1 1 (by decide)) (by decide) (fun v h1 q => ?_)
        obtain ⟨rfl, rfl⟩ := q
        refine px_PW.ret kt_71.2 rfl rfl ?_
        have E : s_odds R T Z N F v part = (-1000000000 - 1) := (if_neg c0).trans ((if_neg c1).trans (if_pos c2))
        rw [E]
        exact ⟨rfl, _, _, _, px_sc.err, rfl⟩
      · have c2 : ¬ (part < 0) := of_decide_eq_false c2
        refine px_PW.steps kt_71.2 3 rfl ?_
        refine px_PW.br (fun c3 => ?_) (fun c3 => ?_)
        · have c3 : part ≤ 1 := of_decide_eq_true c3
          refine px_PW.steps kt_71.2 4 rfl ?_
          refine c_odd_loop hw hR hR8 hT hT200 T 1 0 Z (by omega) (fun Z9 o4 hZ => ?_)
          refine px_PW.steps kt_71.2 2 rfl ?_
          refine px_PW.br (fun c4 => ?_) (fun c4 => ?_)
          · have c4 : ¬ (part = 0) := of_decide_eq_false (px_nt c4)
            refine px_PW.steps kt_71.2 2 rfl ?_
            refine px_PW.callV kt_71.2 rfl rfl rfl rfl (cc_is (N := N) hw.1 1 (by decide)) (by decide) (fun v h1 q => ?_)
            obtain ⟨rfl, rfl⟩ := q
            refine px_PW.steps kt_71.2 3 rfl ?_
            refine px_PW.callV kt_71.2 rfl rfl rfl rfl (cc_is (N := N) hw.1 1 (by decide)) (by decide) (fun v h1 q => ?_)
            obtain ⟨rfl, rfl⟩ := q
            refine px_PW.callS kt_71.2 rfl rfl rfl (px_cdx (x := (s_odd (fun s => c_nar F R (nI s)) v T 1 0)) (y := T) (by have := s_odd_le (fun s => c_nar F R (nI s)) v T 1 0; omega) (by omega) rfl hT) (by decide) (fun v h1 q => ?_)
            obtain ⟨rfl, rfl⟩ := q
            refine px_PW.callS kt_71.2 rfl rfl rfl (cc_quot _ _ _) (by decide) (fun v h1 q => ?_)
            obtain ⟨rfl, rfl⟩ := q
            refine px_PW.ret kt_71.2 rfl rfl ?_
            have E : s_odds R T Z N F v part = (i_quo ((F 0) 1) (nI (zz_cd (s_odd (fun s => c_nar F R (nI s)) v T 1 0) T T))) := (if_neg c0).trans ((if_neg c1).trans ((if_neg c2).trans ((if_pos c3).trans (if_neg c4))))
            rw [E]
            exact ⟨rfl, _, _, _, px_sc.z hZ, rfl⟩
          · have c4 : part = 0 := of_decide_eq_true (px_nf c4)
            refine px_PW.steps kt_71.2 5 rfl ?_
            refine px_PW.callV kt_71.2 rfl rfl rfl rfl (cc_is (N := N) hw.1 1 (by decide)) (by decide) (fun v h1 q => ?_)
            obtain ⟨rfl, rfl⟩ := q
            refine px_PW.callS kt_71.2 rfl rfl rfl (px_cdx (x := (s_odd (fun s => c_nar F R (nI s)) v T 1 0)) (y := T) (by have := s_odd_le (fun s => c_nar F R (nI s)) v T 1 0; omega) (by omega) rfl hT) (by decide) (fun v h1 q => ?_)
            obtain ⟨rfl, rfl⟩ := q
            refine px_PW.callS kt_71.2 rfl rfl rfl (cc_quot _ _ _) (by decide) (fun v h1 q => ?_)
            obtain ⟨rfl, rfl⟩ := q
            refine px_PW.ret kt_71.2 rfl rfl ?_
            have E : s_odds R T Z N F v part = (i_quo (nI (s_odd (fun s => c_nar F R (nI s)) v T 1 0)) (nI (zz_cd (s_odd (fun s => c_nar F R (nI s)) v T 1 0) T T))) := (if_neg c0).trans ((if_neg c1).trans ((if_neg c2).trans ((if_pos c3).trans (if_pos c4))))
            rw [E]
            exact ⟨rfl, _, _, _, px_sc.z hZ, rfl⟩
        · have c3 : ¬ (part ≤ 1) := of_decide_eq_false c3
          refine px_PW.steps kt_71.2 2 rfl ?_
          refine px_PW.callV kt_71.2 rfl rfl rfl rfl (cc_error hw.2.2.1 1 (by decide)) (by decide) (fun v h1 q => ?_)
          obtain ⟨rfl, rfl⟩ := q
          refine px_PW.ret kt_71.2 rfl rfl ?_
          have E : s_odds R T Z N F v part = (-1000000000 - 1) := (if_neg c0).trans ((if_neg c1).trans ((if_neg c2).trans (if_neg c3)))
          rw [E]
          exact ⟨rfl, _, _, _, px_sc.err, rfl⟩
end
/-! part 35.cvoice -/
section
def s_bodyOf (kd vo : Int32) : Int32 := (if vo = 0 then (if kd = 1 then 20 else (if kd = 4 then 50 else (if kd = 6 then 70 else 10))) else (if vo = 1 then (if kd = 2 then 30 else (if kd = 5 then 60 else (if kd = 6 then 71 else 11))) else (if vo = 2 then (if kd = 4 then 51 else (if (3 : Int32) = 0 ∨ (3 : Int32) = kd ∨ (3 : Int32) = s_above kd then 40 else 12)) else (if (1 : Int32) = 0 ∨ (1 : Int32) = kd ∨ (1 : Int32) = s_above kd then 21 else 13))))
theorem px_swd_45_1 {x : Int32} (c0 : ¬ (x = 0)) (c1 : ¬ (x = 1)) (c2 : ¬ (x = 2)) : px_sw 0 [28, 71, 114] 146 x.toInt = 146 := by
  have d0 : ¬ (x.toInt = 0) := fun h => c0 (px_i_of h (by decide +kernel))
  have d1 : ¬ (x.toInt = 1) := fun h => c1 (px_i_of h (by decide +kernel))
  have d2 : ¬ (x.toInt = 2) := fun h => c2 (px_i_of h (by decide +kernel))
  exact px_sw_d (fun y h1 h2 => by
    have h1 : (0 : Int) ≤ y := h1
    have h2 : y < 3 := h2
    rcases (show y = 0 ∨ y = 1 ∨ y = 2 by omega) with rfl | rfl | rfl
    · exact Or.inl (fun h => d0 h)
    · exact Or.inl (fun h => d1 h)
    · exact Or.inl (fun h => d2 h))
theorem cv_bodyOf {Z N : Nat → Int32} {F : Nat → Nat → Int32} (vo : Int32) : px_PM 3 45 [.ref 63, .int vo] (px_CH Z N F, []) (fun r h' => r = some (.int (s_bodyOf (Z 18) vo)) ∧ h' = (px_CH Z N F, [])) := by
  refine px_PM.start (nL := 2) (code := pc_45) rfl rfl ?_
  refine px_PW.steps kt_45.2 2 rfl ?_
  by_cases c0 : vo = 0
  · refine px_PW.at (pc' := 28) (by rw [c0]; rfl) ?_
    refine px_PW.steps kt_45.2 4 rfl ?_
    refine px_PW.br (fun c1 => ?_) (fun c1 => ?_)
    · have c1 : ¬ ((Z 18) = 1) := of_decide_eq_false (px_nt c1)
      refine px_PW.steps kt_45.2 4 rfl ?_
      refine px_PW.br (fun c2 => ?_) (fun c2 => ?_)
      · have c2 : ¬ ((Z 18) = 4) := of_decide_eq_false (px_nt c2)
        refine px_PW.steps kt_45.2 4 rfl ?_
        refine px_PW.br (fun c3 => ?_) (fun c3 => ?_)
        · have c3 : ¬ ((Z 18) = 6) := of_decide_eq_false (px_nt c3)
          refine px_PW.steps kt_45.2 1 rfl ?_
          refine px_PW.ret kt_45.2 rfl rfl ?_
          exact ⟨congrArg (fun z => some (Value.int z)) (show s_bodyOf (Z 18) vo = 10 from (if_pos c0).trans ((if_neg c1).trans ((if_neg c2).trans (if_neg c3)))).symm, rfl⟩
        · have c3 : (Z 18) = 6 := of_decide_eq_true (px_nf c3)
          refine px_PW.steps kt_45.2 2 rfl ?_
          refine px_PW.ret kt_45.2 rfl rfl ?_
          exact ⟨congrArg (fun z => some (Value.int z)) (show s_bodyOf (Z 18) vo = 70 from (if_pos c0).trans ((if_neg c1).trans ((if_neg c2).trans (if_pos c3)))).symm, rfl⟩
      · have c2 : (Z 18) = 4 := of_decide_eq_true (px_nf c2)
        refine px_PW.steps kt_45.2 2 rfl ?_
        refine px_PW.ret kt_45.2 rfl rfl ?_
        exact ⟨congrArg (fun z => some (Value.int z)) (show s_bodyOf (Z 18) vo = 50 from (if_pos c0).trans ((if_neg c1).trans (if_pos c2))).symm, rfl⟩
    · have c1 : (Z 18) = 1 := of_decide_eq_true (px_nf c1)
      refine px_PW.steps kt_45.2 2 rfl ?_
      refine px_PW.ret kt_45.2 rfl rfl ?_
      exact ⟨congrArg (fun z => some (Value.int z)) (show s_bodyOf (Z 18) vo = 20 from (if_pos c0).trans (if_pos c1)).symm, rfl⟩
  · skip
    by_cases c4 : vo = 1
    · refine px_PW.at (pc' := 71) (by rw [c4]; rfl) ?_
      refine px_PW.steps kt_45.2 4 rfl ?_
      refine px_PW.br (fun c5 => ?_) (fun c5 => ?_)
      · have c5 : ¬ ((Z 18) = 2) := of_decide_eq_false (px_nt c5)
        refine px_PW.steps kt_45.2 4 rfl ?_
        refine px_PW.br (fun c6 => ?_) (fun c6 => ?_)
        · have c6 : ¬ ((Z 18) = 5) := of_decide_eq_false (px_nt c6)
          refine px_PW.steps kt_45.2 4 rfl ?_
          refine px_PW.br (fun c7 => ?_) (fun c7 => ?_)
          · have c7 : ¬ ((Z 18) = 6) := of_decide_eq_false (px_nt c7)
            refine px_PW.steps kt_45.2 1 rfl ?_
            refine px_PW.ret kt_45.2 rfl rfl ?_
            exact ⟨congrArg (fun z => some (Value.int z)) (show s_bodyOf (Z 18) vo = 11 from (if_neg c0).trans ((if_pos c4).trans ((if_neg c5).trans ((if_neg c6).trans (if_neg c7))))).symm, rfl⟩
          · have c7 : (Z 18) = 6 := of_decide_eq_true (px_nf c7)
            refine px_PW.steps kt_45.2 2 rfl ?_
            refine px_PW.ret kt_45.2 rfl rfl ?_
            exact ⟨congrArg (fun z => some (Value.int z)) (show s_bodyOf (Z 18) vo = 71 from (if_neg c0).trans ((if_pos c4).trans ((if_neg c5).trans ((if_neg c6).trans (if_pos c7))))).symm, rfl⟩
        · have c6 : (Z 18) = 5 := of_decide_eq_true (px_nf c6)
          refine px_PW.steps kt_45.2 2 rfl ?_
          refine px_PW.ret kt_45.2 rfl rfl ?_
          exact ⟨congrArg (fun z => some (Value.int z)) (show s_bodyOf (Z 18) vo = 60 from (if_neg c0).trans ((if_pos c4).trans ((if_neg c5).trans (if_pos c6)))).symm, rfl⟩
      · have c5 : (Z 18) = 2 := of_decide_eq_true (px_nf c5)
        refine px_PW.steps kt_45.2 2 rfl ?_
        refine px_PW.ret kt_45.2 rfl rfl ?_
        exact ⟨congrArg (fun z => some (Value.int z)) (show s_bodyOf (Z 18) vo = 30 from (if_neg c0).trans ((if_pos c4).trans (if_pos c5))).symm, rfl⟩
    · skip
      by_cases c8 : vo = 2
      · refine px_PW.at (pc' := 114) (by rw [c8]; rfl) ?_
        refine px_PW.steps kt_45.2 4 rfl ?_
        refine px_PW.br (fun c9 => ?_) (fun c9 => ?_)
        · have c9 : ¬ ((Z 18) = 4) := of_decide_eq_false (px_nt c9)
          refine px_PW.steps kt_45.2 3 rfl ?_
          refine px_PW.callS kt_45.2 rfl rfl rfl (cc_isOfKind _ _ _) (by decide) (fun v h1 q => ?_)
          obtain ⟨rfl, rfl⟩ := q
          refine px_PW.steps kt_45.2 1 rfl ?_
          refine px_PW.br (fun c10 => ?_) (fun c10 => ?_)
          · have c10 : ¬ ((3 : Int32) = 0 ∨ (3 : Int32) = (Z 18) ∨ (3 : Int32) = s_above (Z 18)) := px_b1z (of_decide_eq_true c10)
            refine px_PW.steps kt_45.2 1 rfl ?_
            refine px_PW.ret kt_45.2 rfl rfl ?_
            exact ⟨congrArg (fun z => some (Value.int z)) (show s_bodyOf (Z 18) vo = 12 from (if_neg c0).trans ((if_neg c4).trans ((if_pos c8).trans ((if_neg c9).trans (if_neg c10))))).symm, rfl⟩
          · have c10 : (3 : Int32) = 0 ∨ (3 : Int32) = (Z 18) ∨ (3 : Int32) = s_above (Z 18) := px_b1n (of_decide_eq_false c10)
            refine px_PW.steps kt_45.2 2 rfl ?_
            refine px_PW.ret kt_45.2 rfl rfl ?_
            exact ⟨congrArg (fun z => some (Value.int z)) (show s_bodyOf (Z 18) vo = 40 from (if_neg c0).trans ((if_neg c4).trans ((if_pos c8).trans ((if_neg c9).trans (if_pos c10))))).symm, rfl⟩
        · have c9 : (Z 18) = 4 := of_decide_eq_true (px_nf c9)
          refine px_PW.steps kt_45.2 2 rfl ?_
          refine px_PW.ret kt_45.2 rfl rfl ?_
          exact ⟨congrArg (fun z => some (Value.int z)) (show s_bodyOf (Z 18) vo = 51 from (if_neg c0).trans ((if_neg c4).trans ((if_pos c8).trans (if_pos c9)))).symm, rfl⟩
      · skip
        refine px_PW.at (px_swd_45_1 c0 c4 c8) ?_
        refine px_PW.steps kt_45.2 3 rfl ?_
        refine px_PW.callS kt_45.2 rfl rfl rfl (cc_isOfKind _ _ _) (by decide) (fun v h1 q => ?_)
        obtain ⟨rfl, rfl⟩ := q
        refine px_PW.steps kt_45.2 1 rfl ?_
        refine px_PW.br (fun c11 => ?_) (fun c11 => ?_)
        · have c11 : ¬ ((1 : Int32) = 0 ∨ (1 : Int32) = (Z 18) ∨ (1 : Int32) = s_above (Z 18)) := px_b1z (of_decide_eq_true c11)
          refine px_PW.steps kt_45.2 1 rfl ?_
          refine px_PW.ret kt_45.2 rfl rfl ?_
          exact ⟨congrArg (fun z => some (Value.int z)) (show s_bodyOf (Z 18) vo = 13 from (if_neg c0).trans ((if_neg c4).trans ((if_neg c8).trans (if_neg c11)))).symm, rfl⟩
        · have c11 : (1 : Int32) = 0 ∨ (1 : Int32) = (Z 18) ∨ (1 : Int32) = s_above (Z 18) := px_b1n (of_decide_eq_false c11)
          refine px_PW.steps kt_45.2 2 rfl ?_
          refine px_PW.ret kt_45.2 rfl rfl ?_
          exact ⟨congrArg (fun z => some (Value.int z)) (show s_bodyOf (Z 18) vo = 21 from (if_neg c0).trans ((if_neg c4).trans ((if_neg c8).trans (if_pos c11)))).symm, rfl⟩
def s_calledBy (kd bo : Int32) : Int32 := (if bo = 11 then (s_bodyOf kd 0) else (if bo = 12 then (s_bodyOf kd 1) else (if bo = 20 then 10 else (if bo = 21 then 13 else (if bo = 30 then 11 else (if bo = 40 then 12 else (if bo = 50 then 20 else (if bo = 51 then 12 else (if bo = 60 then 30 else (if bo = 71 then 11 else 0))))))))))
theorem px_swd_46_1 {x : Int32} (c0 : ¬ (x = 11)) (c1 : ¬ (x = 12)) (c2 : ¬ (x = 20)) (c3 : ¬ (x = 21)) (c4 : ¬ (x = 30)) (c5 : ¬ (x = 40)) (c6 : ¬ (x = 50)) (c7 : ¬ (x = 51)) (c8 : ¬ (x = 60)) (c9 : ¬ (x = 71)) : px_lk [(11, 92), (12, 98), (20, 104), (21, 107), (30, 110), (40, 113), (50, 116), (51, 113), (60, 119), (71, 110)] 122 x.toInt = 122 := by
  have d0 : ¬ (x.toInt = 11) := fun h => c0 (px_i_of h (by decide +kernel))
  have d1 : ¬ (x.toInt = 12) := fun h => c1 (px_i_of h (by decide +kernel))
  have d2 : ¬ (x.toInt = 20) := fun h => c2 (px_i_of h (by decide +kernel))
  have d3 : ¬ (x.toInt = 21) := fun h => c3 (px_i_of h (by decide +kernel))
  have d4 : ¬ (x.toInt = 30) := fun h => c4 (px_i_of h (by decide +kernel))
  have d5 : ¬ (x.toInt = 40) := fun h => c5 (px_i_of h (by decide +kernel))
  have d6 : ¬ (x.toInt = 50) := fun h => c6 (px_i_of h (by decide +kernel))
  have d7 : ¬ (x.toInt = 51) := fun h => c7 (px_i_of h (by decide +kernel))
  have d8 : ¬ (x.toInt = 60) := fun h => c8 (px_i_of h (by decide +kernel))
  have d9 : ¬ (x.toInt = 71) := fun h => c9 (px_i_of h (by decide +kernel))
  simp only [px_lk, decide_eq_false (fun h : (11 : Int) = x.toInt => d0 h.symm), decide_eq_false (fun h : (12 : Int) = x.toInt => d1 h.symm), decide_eq_false (fun h : (20 : Int) = x.toInt => d2 h.symm), decide_eq_false (fun h : (21 : Int) = x.toInt => d3 h.symm), decide_eq_false (fun h : (30 : Int) = x.toInt => d4 h.symm), decide_eq_false (fun h : (40 : Int) = x.toInt => d5 h.symm), decide_eq_false (fun h : (50 : Int) = x.toInt => d6 h.symm), decide_eq_false (fun h : (51 : Int) = x.toInt => d7 h.symm), decide_eq_false (fun h : (60 : Int) = x.toInt => d8 h.symm), decide_eq_false (fun h : (71 : Int) = x.toInt => d9 h.symm)]
  rfl
theorem cv_calledBy {Z N : Nat → Int32} {F : Nat → Nat → Int32} (bo : Int32) : px_PM 4 46 [.ref 63, .int bo] (px_CH Z N F, []) (fun r h' => r = some (.int (s_calledBy (Z 18) bo)) ∧ h' = (px_CH Z N F, [])) := by
  refine px_PM.start (nL := 2) (code := pc_46) rfl rfl ?_
  refine px_PW.steps kt_46.2 2 rfl ?_
  by_cases c0 : bo = 11
  · refine px_PW.at (pc' := 92) (by rw [c0]; rfl) ?_
    refine px_PW.steps kt_46.2 2 rfl ?_
    refine px_PW.callV kt_46.2 rfl rfl rfl rfl (cv_bodyOf _) (by decide) (fun v h1 q => ?_)
    obtain ⟨rfl, rfl⟩ := q
    refine px_PW.ret kt_46.2 rfl rfl ?_
    exact ⟨congrArg (fun z => some (Value.int z)) (show s_calledBy (Z 18) bo = (s_bodyOf (Z 18) 0) from if_pos c0).symm, rfl⟩
  · skip
    by_cases c1 : bo = 12
    · refine px_PW.at (pc' := 98) (by rw [c1]; rfl) ?_
      refine px_PW.steps kt_46.2 2 rfl ?_
      refine px_PW.callV kt_46.2 rfl rfl rfl rfl (cv_bodyOf _) (by decide) (fun v h1 q => ?_)
      obtain ⟨rfl, rfl⟩ := q
      refine px_PW.ret kt_46.2 rfl rfl ?_
      exact ⟨congrArg (fun z => some (Value.int z)) (show s_calledBy (Z 18) bo = (s_bodyOf (Z 18) 1) from (if_neg c0).trans (if_pos c1)).symm, rfl⟩
    · skip
      by_cases c2 : bo = 20
      · refine px_PW.at (pc' := 104) (by rw [c2]; rfl) ?_
        refine px_PW.steps kt_46.2 1 rfl ?_
        refine px_PW.ret kt_46.2 rfl rfl ?_
        exact ⟨congrArg (fun z => some (Value.int z)) (show s_calledBy (Z 18) bo = 10 from (if_neg c0).trans ((if_neg c1).trans (if_pos c2))).symm, rfl⟩
      · skip
        by_cases c3 : bo = 21
        · refine px_PW.at (pc' := 107) (by rw [c3]; rfl) ?_
          refine px_PW.steps kt_46.2 1 rfl ?_
          refine px_PW.ret kt_46.2 rfl rfl ?_
          exact ⟨congrArg (fun z => some (Value.int z)) (show s_calledBy (Z 18) bo = 13 from (if_neg c0).trans ((if_neg c1).trans ((if_neg c2).trans (if_pos c3)))).symm, rfl⟩
        · skip
          by_cases c4 : bo = 30
          · refine px_PW.at (pc' := 110) (by rw [c4]; rfl) ?_
            refine px_PW.steps kt_46.2 1 rfl ?_
            refine px_PW.ret kt_46.2 rfl rfl ?_
            exact ⟨congrArg (fun z => some (Value.int z)) (show s_calledBy (Z 18) bo = 11 from (if_neg c0).trans ((if_neg c1).trans ((if_neg c2).trans ((if_neg c3).trans (if_pos c4))))).symm, rfl⟩
          · skip
            by_cases c5 : bo = 40
            · refine px_PW.at (pc' := 113) (by rw [c5]; rfl) ?_
              refine px_PW.steps kt_46.2 1 rfl ?_
              refine px_PW.ret kt_46.2 rfl rfl ?_
              exact ⟨congrArg (fun z => some (Value.int z)) (show s_calledBy (Z 18) bo = 12 from (if_neg c0).trans ((if_neg c1).trans ((if_neg c2).trans ((if_neg c3).trans ((if_neg c4).trans (if_pos c5)))))).symm, rfl⟩
            · skip
              by_cases c6 : bo = 50
              · refine px_PW.at (pc' := 116) (by rw [c6]; rfl) ?_
                refine px_PW.steps kt_46.2 1 rfl ?_
                refine px_PW.ret kt_46.2 rfl rfl ?_
                exact ⟨congrArg (fun z => some (Value.int z)) (show s_calledBy (Z 18) bo = 20 from (if_neg c0).trans ((if_neg c1).trans ((if_neg c2).trans ((if_neg c3).trans ((if_neg c4).trans ((if_neg c5).trans (if_pos c6))))))).symm, rfl⟩
              · skip
                by_cases c7 : bo = 51
                · refine px_PW.at (pc' := 113) (by rw [c7]; rfl) ?_
                  refine px_PW.steps kt_46.2 1 rfl ?_
                  refine px_PW.ret kt_46.2 rfl rfl ?_
                  exact ⟨congrArg (fun z => some (Value.int z)) (show s_calledBy (Z 18) bo = 12 from (if_neg c0).trans ((if_neg c1).trans ((if_neg c2).trans ((if_neg c3).trans ((if_neg c4).trans ((if_neg c5).trans ((if_neg c6).trans (if_pos c7)))))))).symm, rfl⟩
                · skip
                  by_cases c8 : bo = 60
                  · refine px_PW.at (pc' := 119) (by rw [c8]; rfl) ?_
                    refine px_PW.steps kt_46.2 1 rfl ?_
                    refine px_PW.ret kt_46.2 rfl rfl ?_
                    exact ⟨congrArg (fun z => some (Value.int z)) (show s_calledBy (Z 18) bo = 30 from (if_neg c0).trans ((if_neg c1).trans ((if_neg c2).trans ((if_neg c3).trans ((if_neg c4).trans ((if_neg c5).trans ((if_neg c6).trans ((if_neg c7).trans (if_pos c8))))))))).symm, rfl⟩
                  · skip
                    by_cases c9 : bo = 71
                    · refine px_PW.at (pc' := 110) (by rw [c9]; rfl) ?_
                      refine px_PW.steps kt_46.2 1 rfl ?_
                      refine px_PW.ret kt_46.2 rfl rfl ?_
                      exact ⟨congrArg (fun z => some (Value.int z)) (show s_calledBy (Z 18) bo = 11 from (if_neg c0).trans ((if_neg c1).trans ((if_neg c2).trans ((if_neg c3).trans ((if_neg c4).trans ((if_neg c5).trans ((if_neg c6).trans ((if_neg c7).trans ((if_neg c8).trans (if_pos c9)))))))))).symm, rfl⟩
                    · skip
                      refine px_PW.at (px_swd_46_1 c0 c1 c2 c3 c4 c5 c6 c7 c8 c9) ?_
                      refine px_PW.steps kt_46.2 1 rfl ?_
                      refine px_PW.ret kt_46.2 rfl rfl ?_
                      exact ⟨congrArg (fun z => some (Value.int z)) (show s_calledBy (Z 18) bo = 0 from (if_neg c0).trans ((if_neg c1).trans ((if_neg c2).trans ((if_neg c3).trans ((if_neg c4).trans ((if_neg c5).trans ((if_neg c6).trans ((if_neg c7).trans ((if_neg c8).trans (if_neg c9)))))))))).symm, rfl⟩
def s_down (nu ma bo x : Int32) : Int32 := (if bo = 10 then (x + nu) else (if bo = 13 then (i_quo x (ma - nu)) else (if bo = 40 then (x / 2) else (if bo = 60 then (x + 1) else (if bo = 70 then 9 else x)))))
theorem px_swd_47_1 {x : Int32} (c0 : ¬ (x = 10)) (c1 : ¬ (x = 13)) (c2 : ¬ (x = 40)) (c3 : ¬ (x = 60)) (c4 : ¬ (x = 70)) : px_lk [(10, 52), (13, 59), (40, 73), (60, 77), (70, 81)] 84 x.toInt = 84 := by
  have d0 : ¬ (x.toInt = 10) := fun h => c0 (px_i_of h (by decide +kernel))
  have d1 : ¬ (x.toInt = 13) := fun h => c1 (px_i_of h (by decide +kernel))
  have d2 : ¬ (x.toInt = 40) := fun h => c2 (px_i_of h (by decide +kernel))
  have d3 : ¬ (x.toInt = 60) := fun h => c3 (px_i_of h (by decide +kernel))
  have d4 : ¬ (x.toInt = 70) := fun h => c4 (px_i_of h (by decide +kernel))
  simp only [px_lk, decide_eq_false (fun h : (10 : Int) = x.toInt => d0 h.symm), decide_eq_false (fun h : (13 : Int) = x.toInt => d1 h.symm), decide_eq_false (fun h : (40 : Int) = x.toInt => d2 h.symm), decide_eq_false (fun h : (60 : Int) = x.toInt => d3 h.symm), decide_eq_false (fun h : (70 : Int) = x.toInt => d4 h.symm)]
  rfl
theorem cv_down {Z N : Nat → Int32} {F : Nat → Nat → Int32} (bo x : Int32) : px_PM 2 47 [.ref 63, .int bo, .int x] (px_CH Z N F, []) (fun r h' => r = some (.int (s_down (Z 19) (Z 20) bo x)) ∧ h' = (px_CH Z N F, [])) := by
  refine px_PM.start (nL := 3) (code := pc_47) rfl rfl ?_
  refine px_PW.steps kt_47.2 2 rfl ?_
  by_cases c0 : bo = 10
  · refine px_PW.at (pc' := 52) (by rw [c0]; rfl) ?_
    refine px_PW.steps kt_47.2 4 rfl ?_
    refine px_PW.ret kt_47.2 rfl rfl ?_
    exact ⟨congrArg (fun z => some (Value.int z)) (show s_down (Z 19) (Z 20) bo x = (x + (Z 19)) from if_pos c0).symm, rfl⟩
  · skip
    by_cases c1 : bo = 13
    · refine px_PW.at (pc' := 59) (by rw [c1]; rfl) ?_
      refine px_PW.steps kt_47.2 6 rfl ?_
      refine px_PW.callS kt_47.2 rfl rfl rfl (cc_quot _ _ _) (by decide) (fun v h1 q => ?_)
      obtain ⟨rfl, rfl⟩ := q
      refine px_PW.ret kt_47.2 rfl rfl ?_
      exact ⟨congrArg (fun z => some (Value.int z)) (show s_down (Z 19) (Z 20) bo x = (i_quo x ((Z 20) - (Z 19))) from (if_neg c0).trans (if_pos c1)).symm, rfl⟩
    · skip
      by_cases c2 : bo = 40
      · refine px_PW.at (pc' := 73) (by rw [c2]; rfl) ?_
        refine px_PW.steps kt_47.2 3 rfl ?_
        refine px_PW.ret kt_47.2 rfl rfl ?_
        exact ⟨congrArg (fun z => some (Value.int z)) (show s_down (Z 19) (Z 20) bo x = (x / 2) from (if_neg c0).trans ((if_neg c1).trans (if_pos c2))).symm, rfl⟩
      · skip
        by_cases c3 : bo = 60
        · refine px_PW.at (pc' := 77) (by rw [c3]; rfl) ?_
          refine px_PW.steps kt_47.2 3 rfl ?_
          refine px_PW.ret kt_47.2 rfl rfl ?_
          exact ⟨congrArg (fun z => some (Value.int z)) (show s_down (Z 19) (Z 20) bo x = (x + 1) from (if_neg c0).trans ((if_neg c1).trans ((if_neg c2).trans (if_pos c3)))).symm, rfl⟩
        · skip
          by_cases c4 : bo = 70
          · refine px_PW.at (pc' := 81) (by rw [c4]; rfl) ?_
            refine px_PW.steps kt_47.2 1 rfl ?_
            refine px_PW.ret kt_47.2 rfl rfl ?_
            exact ⟨congrArg (fun z => some (Value.int z)) (show s_down (Z 19) (Z 20) bo x = 9 from (if_neg c0).trans ((if_neg c1).trans ((if_neg c2).trans ((if_neg c3).trans (if_pos c4))))).symm, rfl⟩
          · skip
            refine px_PW.at (px_swd_47_1 c0 c1 c2 c3 c4) ?_
            refine px_PW.steps kt_47.2 1 rfl ?_
            refine px_PW.ret kt_47.2 rfl rfl ?_
            exact ⟨congrArg (fun z => some (Value.int z)) (show s_down (Z 19) (Z 20) bo x = x from (if_neg c0).trans ((if_neg c1).trans ((if_neg c2).trans ((if_neg c3).trans (if_neg c4))))).symm, rfl⟩
def s_up (nu ma bo x : Int32) : Int32 := (if bo = 11 then (x * 2) else (if bo = 12 then (x - ma) else (if bo = 20 then (x - 4) else (if bo = 30 then (0 - x) else (if bo = 50 then (x * 3) else (if bo = 51 then (x ^^^ nu) else (if bo = 71 then (x + ma) else x)))))))
theorem px_swd_48_1 {x : Int32} (c0 : ¬ (x = 11)) (c1 : ¬ (x = 12)) (c2 : ¬ (x = 20)) (c3 : ¬ (x = 30)) (c4 : ¬ (x = 50)) (c5 : ¬ (x = 51)) (c6 : ¬ (x = 71)) : px_lk [(11, 68), (12, 72), (20, 79), (30, 83), (50, 87), (51, 91), (71, 98)] 105 x.toInt = 105 := by
  have d0 : ¬ (x.toInt = 11) := fun h => c0 (px_i_of h (by decide +kernel))
  have d1 : ¬ (x.toInt = 12) := fun h => c1 (px_i_of h (by decide +kernel))
  have d2 : ¬ (x.toInt = 20) := fun h => c2 (px_i_of h (by decide +kernel))
  have d3 : ¬ (x.toInt = 30) := fun h => c3 (px_i_of h (by decide +kernel))
  have d4 : ¬ (x.toInt = 50) := fun h => c4 (px_i_of h (by decide +kernel))
  have d5 : ¬ (x.toInt = 51) := fun h => c5 (px_i_of h (by decide +kernel))
  have d6 : ¬ (x.toInt = 71) := fun h => c6 (px_i_of h (by decide +kernel))
  simp only [px_lk, decide_eq_false (fun h : (11 : Int) = x.toInt => d0 h.symm), decide_eq_false (fun h : (12 : Int) = x.toInt => d1 h.symm), decide_eq_false (fun h : (20 : Int) = x.toInt => d2 h.symm), decide_eq_false (fun h : (30 : Int) = x.toInt => d3 h.symm), decide_eq_false (fun h : (50 : Int) = x.toInt => d4 h.symm), decide_eq_false (fun h : (51 : Int) = x.toInt => d5 h.symm), decide_eq_false (fun h : (71 : Int) = x.toInt => d6 h.symm)]
  rfl
theorem cv_up {Z N : Nat → Int32} {F : Nat → Nat → Int32} (bo x : Int32) : px_PM 1 48 [.ref 63, .int bo, .int x] (px_CH Z N F, []) (fun r h' => r = some (.int (s_up (Z 19) (Z 20) bo x)) ∧ h' = (px_CH Z N F, [])) := by
  refine px_PM.start (nL := 3) (code := pc_48) rfl rfl ?_
  refine px_PW.steps kt_48.2 2 rfl ?_
  by_cases c0 : bo = 11
  · refine px_PW.at (pc' := 68) (by rw [c0]; rfl) ?_
    refine px_PW.steps kt_48.2 3 rfl ?_
    refine px_PW.ret kt_48.2 rfl rfl ?_
    exact ⟨congrArg (fun z => some (Value.int z)) (show s_up (Z 19) (Z 20) bo x = (x * 2) from if_pos c0).symm, rfl⟩
  · skip
    by_cases c1 : bo = 12
    · refine px_PW.at (pc' := 72) (by rw [c1]; rfl) ?_
      refine px_PW.steps kt_48.2 4 rfl ?_
      refine px_PW.ret kt_48.2 rfl rfl ?_
      exact ⟨congrArg (fun z => some (Value.int z)) (show s_up (Z 19) (Z 20) bo x = (x - (Z 20)) from (if_neg c0).trans (if_pos c1)).symm, rfl⟩
    · skip
      by_cases c2 : bo = 20
      · refine px_PW.at (pc' := 79) (by rw [c2]; rfl) ?_
        refine px_PW.steps kt_48.2 3 rfl ?_
        refine px_PW.ret kt_48.2 rfl rfl ?_
        exact ⟨congrArg (fun z => some (Value.int z)) (show s_up (Z 19) (Z 20) bo x = (x - 4) from (if_neg c0).trans ((if_neg c1).trans (if_pos c2))).symm, rfl⟩
      · skip
        by_cases c3 : bo = 30
        · refine px_PW.at (pc' := 83) (by rw [c3]; rfl) ?_
          refine px_PW.steps kt_48.2 3 rfl ?_
          refine px_PW.ret kt_48.2 rfl rfl ?_
          exact ⟨congrArg (fun z => some (Value.int z)) (show s_up (Z 19) (Z 20) bo x = (0 - x) from (if_neg c0).trans ((if_neg c1).trans ((if_neg c2).trans (if_pos c3)))).symm, rfl⟩
        · skip
          by_cases c4 : bo = 50
          · refine px_PW.at (pc' := 87) (by rw [c4]; rfl) ?_
            refine px_PW.steps kt_48.2 3 rfl ?_
            refine px_PW.ret kt_48.2 rfl rfl ?_
            exact ⟨congrArg (fun z => some (Value.int z)) (show s_up (Z 19) (Z 20) bo x = (x * 3) from (if_neg c0).trans ((if_neg c1).trans ((if_neg c2).trans ((if_neg c3).trans (if_pos c4))))).symm, rfl⟩
          · skip
            by_cases c5 : bo = 51
            · refine px_PW.at (pc' := 91) (by rw [c5]; rfl) ?_
              refine px_PW.steps kt_48.2 4 rfl ?_
              refine px_PW.ret kt_48.2 rfl rfl ?_
              exact ⟨congrArg (fun z => some (Value.int z)) (show s_up (Z 19) (Z 20) bo x = (x ^^^ (Z 19)) from (if_neg c0).trans ((if_neg c1).trans ((if_neg c2).trans ((if_neg c3).trans ((if_neg c4).trans (if_pos c5)))))).symm, rfl⟩
            · skip
              by_cases c6 : bo = 71
              · refine px_PW.at (pc' := 98) (by rw [c6]; rfl) ?_
                refine px_PW.steps kt_48.2 4 rfl ?_
                refine px_PW.ret kt_48.2 rfl rfl ?_
                exact ⟨congrArg (fun z => some (Value.int z)) (show s_up (Z 19) (Z 20) bo x = (x + (Z 20)) from (if_neg c0).trans ((if_neg c1).trans ((if_neg c2).trans ((if_neg c3).trans ((if_neg c4).trans ((if_neg c5).trans (if_pos c6))))))).symm, rfl⟩
              · skip
                refine px_PW.at (px_swd_48_1 c0 c1 c2 c3 c4 c5 c6) ?_
                refine px_PW.steps kt_48.2 1 rfl ?_
                refine px_PW.ret kt_48.2 rfl rfl ?_
                exact ⟨congrArg (fun z => some (Value.int z)) (show s_up (Z 19) (Z 20) bo x = x from (if_neg c0).trans ((if_neg c1).trans ((if_neg c2).trans ((if_neg c3).trans ((if_neg c4).trans ((if_neg c5).trans (if_neg c6))))))).symm, rfl⟩
/-- the BODIES from one on, as one calls the next -/
def s_ch (kd : Int32) : Nat → Int32 → List Int32
  | 0, _ => []
  | m + 1, b => if b = 0 then [] else b :: s_ch kd m (s_calledBy kd b)
def s_dn (nu ma : Int32) : List Int32 → Int32 → Int32
  | [], x => x
  | b :: r, x => s_dn nu ma r (s_down nu ma b x)
def s_upl (nu ma : Int32) : List Int32 → Int32 → Int32
  | [], x => x
  | b :: r, x => s_up nu ma b (s_upl nu ma r x)
/-- a row holds a list from a place on -/
def zz_ls (f : Nat → Int32) : Nat → List Int32 → Prop
  | _, [] => True
  | i, v :: r => f i = v ∧ zz_ls f (i + 1) r
theorem zz_ls_snoc {f : Nat → Int32} : ∀ (i : Nat) (l : List Int32) (v : Int32), zz_ls f i l → zz_ls (upd f (i + l.length) v) i (l ++ [v])
  | i, [], v, _ => ⟨by simp [upd], trivial⟩
  | i, a :: r, v, h => by
    refine ⟨?_, ?_⟩
    · rw [px_upd_ne f v (by simp only [List.length_cons]; omega)]; exact h.1
    · have g := zz_ls_snoc (i + 1) r v h.2
      rw [show i + 1 + r.length = i + (a :: r).length by simp only [List.length_cons]; omega] at g
      exact g
theorem zz_ls_app {f : Nat → Int32} : ∀ (i : Nat) (l r : List Int32), zz_ls f i (l ++ r) → zz_ls f i l ∧ zz_ls f (i + l.length) r
  | i, [], r, h => ⟨trivial, h⟩
  | i, a :: l, r, h => by
    have g := zz_ls_app (i + 1) l r h.2
    refine ⟨⟨h.1, g.1⟩, ?_⟩
    rw [show i + (a :: l).length = i + 1 + l.length by simp only [List.length_cons]; omega]
    exact g.2
theorem s_dn_app (nu ma : Int32) : ∀ (l r : List Int32) (x : Int32), s_dn nu ma (l ++ r) x = s_dn nu ma r (s_dn nu ma l x)
  | [], _, _ => rfl
  | _ :: l, r, x => s_dn_app nu ma l r _
theorem s_upl_app (nu ma : Int32) : ∀ (l r : List Int32) (x : Int32), s_upl nu ma (l ++ r) x = s_upl nu ma l (s_upl nu ma r x)
  | [], _, _ => rfl
  | b :: l, r, x => congrArg (s_up nu ma b) (s_upl_app nu ma l r x)
theorem c_dn_loop {Z N : Nat → Int32} {F : Nat → Nat → Int32} {b : Nat} {f1 x0 : Int32} {Q : Option Value → px_H → Prop} : ∀ (m k : Nat) (bo x : Int32) (l : List Int32) (f : Nat → Int32), k + m = 30 → l.length = k → zz_ls f b l → b + k + (s_ch (Z 18) m bo).length ≤ 30 → (∀ (g : Nat → Int32) (o4 o6 : Option Value), zz_ls g b (l ++ s_ch (Z 18) m bo) → px_PW 4 pc_44 Q 62 [some (.ref 63), some (.int f1), some (.int x0), some (.int (nI b)), o4, some (.int (s_dn (Z 19) (Z 20) (s_ch (Z 18) m bo) x)), o6] [] (px_CH Z (upd N 26 (nI (b + k + (s_ch (Z 18) m bo).length))) (va_up F 26 g), [])) → px_PW 4 pc_44 Q 17 [some (.ref 63), some (.int f1), some (.int x0), some (.int (nI b)), some (.int bo), some (.int x), some (.int (nI k))] [] (px_CH Z (upd N 26 (nI (b + k))) (va_up F 26 f), [])
  | m, k, bo, x, l, f, hk, hl, hf, hlen, H => by
    refine px_PW.steps kt_44.2 3 rfl ?_
    refine px_PW.br (fun c0 => ?_) (fun c0 => ?_)
    · have c0 : 30 ≤ (nI k) := of_decide_eq_true c0
      have c0 : 30 ≤ k := (nI_leI (a := 30) (b := k) (by omega) (by omega)).mp c0
      obtain rfl : m = 0 := by omega
      have h := H f (some (.int bo)) (some (.int (nI k))) (by rw [show s_ch (Z 18) 0 bo = [] from rfl, List.append_nil]; exact hf)
      exact h
    · have c0 : ¬ (30 ≤ (nI k)) := of_decide_eq_false c0
      have c0 : ¬ (30 ≤ k) := fun q => c0 ((nI_leI (a := 30) (b := k) (by omega) (by omega)).mpr q)
      obtain ⟨m2, rfl⟩ : ∃ m2, m = m2 + 1 := ⟨m - 1, by omega⟩
      refine px_PW.steps kt_44.2 2 rfl ?_
      refine px_PW.br (fun c1 => ?_) (fun c1 => ?_)
      · have c1 : bo = 0 := of_decide_eq_true c1
        have e0 : s_ch (Z 18) (m2 + 1) bo = [] := if_pos c1
        rw [e0] at H
        have h := H f (some (.int bo)) (some (.int (nI k))) (by rw [List.append_nil]; exact hf)
        exact h
      · have c1 : ¬ (bo = 0) := of_decide_eq_false c1
        have e0 : s_ch (Z 18) (m2 + 1) bo = bo :: s_ch (Z 18) m2 (s_calledBy (Z 18) bo) := if_neg c1
        rw [e0, List.length_cons] at hlen
        refine px_PW.steps kt_44.2 3 rfl ?_
        refine px_PW.callV kt_44.2 rfl rfl rfl rfl (nb_addN (N := (upd N 26 (nI (b + k)))) (q := 26) (n := b + k) (by decide) rfl (show b + k < 30 by omega) _) (by decide) (fun v h1 q => ?_)
        obtain ⟨rfl, rfl⟩ := q
        refine px_PW.steps kt_44.2 3 rfl ?_
        refine px_PW.callV kt_44.2 rfl rfl rfl rfl (cv_down _ _) (by decide) (fun v h1 q => ?_)
        obtain ⟨rfl, rfl⟩ := q
        refine px_PW.steps kt_44.2 3 rfl ?_
        refine px_PW.callV kt_44.2 rfl rfl rfl rfl (cv_calledBy _) (by decide) (fun v h1 q => ?_)
        obtain ⟨rfl, rfl⟩ := q
        refine px_PW.steps kt_44.2 3 rfl ?_
        rw [e0] at H
        have g := c_dn_loop (b := b) (f1 := f1) (x0 := x0) (Q := Q) (Z := Z) (N := N) (F := F) m2 (k + 1) (s_calledBy (Z 18) bo) (s_down (Z 19) (Z 20) bo x) (l ++ [bo]) (upd f (b + k) bo) (by omega) (by simp [hl]) (by have h := zz_ls_snoc b l bo hf; rw [hl] at h; exact h) (by omega) (fun g o4 o6 hg => by
          have h := H g o4 o6 (by rw [List.append_assoc] at hg; exact hg)
          rw [List.length_cons, show b + k + ((s_ch (Z 18) m2 (s_calledBy (Z 18) bo)).length + 1) = b + (k + 1) + (s_ch (Z 18) m2 (s_calledBy (Z 18) bo)).length by omega] at h
          exact h)
        have e2 : va_up F 26 (upd f (b + k) bo) = (va_up (va_up F 26 f) 26 (upd f (b + k) bo)) := by rw [px_up_up]
        have e3 : upd N 26 (nI (b + (k + 1))) = (upd (upd N 26 (nI (b + k))) 26 (nI (b + k + 1))) := by rw [zz_uu]; rfl
        rw [e2, e3, nI_succ k] at g
        exact g
theorem c_up_loop {Z N : Nat → Int32} {F : Nat → Nat → Int32} {b E : Nat} (hE : N 26 = nI E) (hE30 : E ≤ 30) {f1 x0 : Int32} {Q : Option Value → px_H → Prop} : ∀ (n : Nat) (l : List Int32) (x : Int32) (i : Int32) (o4 : Option Value), l.length = n → i = nI (b + l.length) + -1 → b + l.length ≤ E → zz_ls (F 26) b l → (∀ o4 o6 : Option Value, px_PW 4 pc_44 Q 102 [some (.ref 63), some (.int f1), some (.int x0), some (.int (nI b)), o4, some (.int (s_upl (Z 19) (Z 20) l x)), o6] [] (px_CH Z N F, [])) → px_PW 4 pc_44 Q 73 [some (.ref 63), some (.int f1), some (.int x0), some (.int (nI b)), o4, some (.int x), some (.int i)] [] (px_CH Z N F, [])
  | n, l, x, i, o4, hn, hi, hlen, hf, H => by
    rcases List.eq_nil_or_concat l with rfl | ⟨p, v, rfl⟩
    · have hb : i < nI b := by
        rw [hi]
        simp only [List.length_nil, Nat.add_zero]
        cases b with
        | zero => decide
        | succ b => rw [zz_dec]; exact nI_lt (by omega) (by omega)
      refine px_PW.steps kt_44.2 3 rfl ?_
      refine px_PW.br (fun c0 => ?_) (fun c0 => ?_)
      · exact H _ _
      · exact absurd hb (of_decide_eq_false c0)
    · simp only [List.concat_eq_append] at *
      have hv := (zz_ls_app b p [v] hf).2.1
      have hp := (zz_ls_app b p [v] hf).1
      have hi2 : i = nI (b + p.length) := by rw [hi, show b + (p ++ [v]).length = (b + p.length) + 1 by simp only [List.length_append, List.length_singleton]; omega, zz_dec]
      subst hi2
      obtain ⟨n2, rfl⟩ : ∃ n2, n = n2 + 1 := ⟨p.length, by rw [← hn]; simp⟩
      refine px_PW.steps kt_44.2 3 rfl ?_
      refine px_PW.br (fun c0 => ?_) (fun c0 => ?_)
      · have c0 : (nI (b + p.length)) < (nI b) := of_decide_eq_true c0
        exact absurd c0 (nI_nlt (by omega) (by have := hlen; simp only [List.length_append, List.length_singleton] at this; omega))
      · have c0 : ¬ ((nI (b + p.length)) < (nI b)) := of_decide_eq_false c0
        refine px_PW.steps kt_44.2 4 rfl ?_
        refine px_PW.callV kt_44.2 rfl rfl rfl rfl (nb_getN (q := 26) (n := b + p.length) (L := E) (by decide) hE (show E ≤ px_lim 26 from hE30) (by have := hlen; simp only [List.length_append, List.length_singleton] at this; omega)) (by decide) (fun v h1 q => ?_)
        obtain ⟨rfl, rfl⟩ := q
        rw [hv]
        refine px_PW.steps kt_44.2 1 rfl ?_
        refine px_PW.callV kt_44.2 rfl rfl rfl rfl (cv_up _ _) (by decide) (fun v h1 q => ?_)
        obtain ⟨rfl, rfl⟩ := q
        refine px_PW.steps kt_44.2 3 rfl ?_
        exact c_up_loop hE hE30 (Q := Q) n2 p (s_up (Z 19) (Z 20) v x) _ _ (by simp at hn; omega) rfl (by have := hlen; simp only [List.length_append, List.length_singleton] at this; omega) hp (fun o4 o6 => by have h := H o4 o6; rw [s_upl_app] at h; exact h)
def s_chained (kd nu ma f1 x : Int32) : Int32 := s_upl nu ma (s_ch kd 30 f1) (s_dn nu ma (s_ch kd 30 f1) x)
theorem cv_chained {Z N : Nat → Int32} {F : Nat → Nat → Int32} {b : Nat} (hb : N 26 = nI b) (f1 x0 : Int32) (hlen : b + (s_ch (Z 18) 30 f1).length ≤ 30) : px_PM 5 44 [.ref 63, .int f1, .int x0] (px_CH Z N F, []) (fun r h' => r = some (.int (s_chained (Z 18) (Z 19) (Z 20) f1 x0)) ∧ ∃ g : Nat → Int32, h' = (px_CH Z (upd N 26 (nI (b + (s_ch (Z 18) 30 f1).length))) (va_up F 26 g), [])) := by
  refine px_PM.start (nL := 7) (code := pc_44) rfl rfl ?_
  refine px_PW.steps kt_44.2 2 rfl ?_
  refine px_PW.callV kt_44.2 rfl rfl rfl rfl (nb_size (q := 26) (by decide)) (by decide) (fun v h1 q => ?_)
  obtain ⟨rfl, rfl⟩ := q
  refine px_PW.steps kt_44.2 7 rfl ?_
  refine px_PW.hp (h' := (px_CH Z (upd N 26 (nI (b + 0))) (va_up F 26 (F 26)), [])) (by rw [Nat.add_zero, ← hb, zz_ui, px_up_id]) ?_
  refine px_PW.lc (lv' := [some (.ref 63), some (.int f1), some (.int x0), some (.int (nI b)), some (.int f1), some (.int x0), some (.int (nI 0))]) (by rw [← hb]; rfl) ?_
  refine c_dn_loop 30 0 f1 x0 [] (F 26) rfl rfl trivial (by rw [Nat.add_zero]; exact hlen) (fun g o4 o6 hg => ?_)
  rw [Nat.add_zero]
  refine px_PW.steps kt_44.2 2 rfl ?_
  refine px_PW.callV kt_44.2 rfl rfl rfl rfl (nb_size (q := 26) (by decide)) (by decide) (fun v h1 q => ?_)
  obtain ⟨rfl, rfl⟩ := q
  refine px_PW.steps kt_44.2 3 rfl ?_
  refine c_up_loop (N := upd N 26 (nI (b + (s_ch (Z 18) 30 f1).length))) (F := va_up F 26 g) (E := b + (s_ch (Z 18) 30 f1).length) rfl hlen _ (s_ch (Z 18) 30 f1) _ _ _ rfl (Int32.sub_eq_add_neg _ 1) (Nat.le_refl _) hg (fun o4 o6 => ?_)
  refine px_PW.steps kt_44.2 1 rfl ?_
  exact px_PW.ret kt_44.2 rfl rfl ⟨rfl, g, rfl⟩
theorem s_ch_len : ∀ k v : Nat, k < 7 → v < 4 → (s_ch (nI k) 30 (s_bodyOf (nI k) (nI v))).length ≤ 8 := by
  have h : ∀ k : Fin 7, ∀ v : Fin 4, (s_ch (nI k.1) 30 (s_bodyOf (nI k.1) (nI v.1))).length ≤ 8 := by decide +kernel
  exact fun k v hk hv => h ⟨k, hk⟩ ⟨v, hv⟩
def s_speak (kd nu ma vo x : Int32) : Int32 := if s_bodyOf kd vo = 21 then s_chained kd nu ma (s_bodyOf kd vo) x + s_chained kd nu ma (s_bodyOf kd 1) 1 else s_chained kd nu ma (s_bodyOf kd vo) x
theorem cv_speak {Z N : Nat → Int32} {F : Nat → Nat → Int32} {kd vo : Nat} (hkd : kd < 7) (hvo : vo < 4) (nu ma x : Int32) : px_PM 6 43 [.ref 63, .int (nI kd), .int nu, .int ma, .int (nI vo), .int x] (px_CH Z N F, []) (fun r h' => r = some (.int (s_speak (nI kd) nu ma (nI vo) x)) ∧ ∃ (Z' : Nat → Int32) (e : Nat) (g : Nat → Int32), Z' = upd (upd (upd Z 18 (nI kd)) 19 nu) 20 ma ∧ e ≤ 30 ∧ h' = (px_CH Z' (upd N 26 (nI e)) (va_up F 26 g), [])) := by
  refine px_PM.start (nL := 8) (code := pc_43) rfl rfl ?_
  refine px_PW.steps kt_43.2 2 rfl ?_
  refine px_op_18 kt_43.2 rfl ?_
  refine px_PW.steps kt_43.2 2 rfl ?_
  refine px_op_19 kt_43.2 rfl ?_
  refine px_PW.steps kt_43.2 2 rfl ?_
  refine px_op_20 kt_43.2 rfl ?_
  refine px_PW.steps kt_43.2 2 rfl ?_
  refine px_PW.callV kt_43.2 rfl rfl rfl rfl (nb_clear (q := 26) (by decide)) (by decide) (fun v h1 q => ?_)
  obtain ⟨rfl, rfl⟩ := q
  refine px_PW.steps kt_43.2 2 rfl ?_
  refine px_PW.callV kt_43.2 rfl rfl rfl rfl (cv_bodyOf _) (by decide) (fun v h1 q => ?_)
  obtain ⟨rfl, rfl⟩ := q
  refine px_PW.steps kt_43.2 4 rfl ?_
  refine px_PW.callV kt_43.2 rfl rfl rfl rfl (cv_chained (Z := (upd (upd (upd Z 18 (nI kd)) 19 nu) 20 ma)) (N := (upd N 26 0)) (b := 0) rfl _ _ (by have := s_ch_len kd vo hkd hvo; show 0 + (s_ch (nI kd) 30 (s_bodyOf (nI kd) (nI vo))).length ≤ 30; omega)) (by decide) (fun v h1 q => ?_)
  obtain ⟨rfl, g0, rfl⟩ := q
  refine px_PW.steps kt_43.2 4 rfl ?_
  refine px_PW.br (fun c0 => ?_) (fun c0 => ?_)
  · have c0 : ¬ ((s_bodyOf (nI kd) (nI vo)) = 21) := of_decide_eq_false (px_nt c0)
    refine px_PW.steps kt_43.2 1 rfl ?_
    refine px_PW.ret kt_43.2 rfl rfl ?_
    refine ⟨congrArg (fun z => some (Value.int z)) (show s_speak (nI kd) nu ma (nI vo) x = (s_chained (nI kd) nu ma (s_bodyOf (nI kd) (nI vo)) x) from if_neg c0).symm, _, 0 + (s_ch (nI kd) 30 (s_bodyOf (nI kd) (nI vo))).length, g0, rfl, ?_, ?_⟩
    · have := s_ch_len kd vo hkd hvo; have := s_ch_len kd 1 hkd (by decide); omega
    · have e1 : upd (upd N 26 0) 26 (nI (0 + (s_ch (nI kd) 30 (s_bodyOf (nI kd) (nI vo))).length)) = upd N 26 (nI (0 + (s_ch (nI kd) 30 (s_bodyOf (nI kd) (nI vo))).length)) := by rw [zz_uu]
      rw [← e1]
      rfl
  · have c0 : (s_bodyOf (nI kd) (nI vo)) = 21 := of_decide_eq_true (px_nf c0)
    refine px_PW.steps kt_43.2 4 rfl ?_
    refine px_PW.callV kt_43.2 rfl rfl rfl rfl (cv_bodyOf _) (by decide) (fun v h1 q => ?_)
    obtain ⟨rfl, rfl⟩ := q
    refine px_PW.steps kt_43.2 1 rfl ?_
    refine px_PW.callV kt_43.2 rfl rfl rfl rfl (cv_chained (Z := (upd (upd (upd Z 18 (nI kd)) 19 nu) 20 ma)) (N := (upd (upd N 26 0) 26 (nI (0 + (s_ch (nI kd) 30 (s_bodyOf (nI kd) (nI vo))).length)))) (b := 0 + (s_ch (nI kd) 30 (s_bodyOf (nI kd) (nI vo))).length) rfl _ _ (by have := s_ch_len kd vo hkd hvo; have := s_ch_len kd 1 hkd (by decide); show (0 + (s_ch (nI kd) 30 (s_bodyOf (nI kd) (nI vo))).length) + (s_ch (nI kd) 30 (s_bodyOf (nI kd) (nI 1))).length ≤ 30; omega)) (by decide) (fun v h1 q => ?_)
    obtain ⟨rfl, g1, rfl⟩ := q
    refine px_PW.steps kt_43.2 2 rfl ?_
    refine px_PW.ret kt_43.2 rfl rfl ?_
    refine ⟨congrArg (fun z => some (Value.int z)) (show s_speak (nI kd) nu ma (nI vo) x = ((s_chained (nI kd) nu ma (s_bodyOf (nI kd) (nI vo)) x) + (s_chained (nI kd) nu ma (s_bodyOf (nI kd) (nI 1)) 1)) from if_pos c0).symm, _, 0 + (s_ch (nI kd) 30 (s_bodyOf (nI kd) (nI vo))).length + (s_ch (nI kd) 30 (s_bodyOf (nI kd) (nI 1))).length, g1, rfl, ?_, ?_⟩
    · have := s_ch_len kd vo hkd hvo; have := s_ch_len kd 1 hkd (by decide); omega
    · have e1 : upd (upd (upd N 26 0) 26 (nI (0 + (s_ch (nI kd) 30 (s_bodyOf (nI kd) (nI vo))).length))) 26 (nI (0 + (s_ch (nI kd) 30 (s_bodyOf (nI kd) (nI vo))).length + (s_ch (nI kd) 30 (s_bodyOf (nI kd) (nI 1))).length)) = upd N 26 (nI (0 + (s_ch (nI kd) 30 (s_bodyOf (nI kd) (nI vo))).length + (s_ch (nI kd) 30 (s_bodyOf (nI kd) (nI 1))).length)) := by rw [zz_uu, zz_uu]
      rw [← e1]
      rw [show va_up F 26 g1 = va_up (va_up F 26 g0) 26 g1 from (px_up_up F 26 g0 g1).symm]
      rfl
end
/-! part 36.cev -/
section
theorem px_sc26 {Z N : Nat → Int32} {F : Nat → Nat → Int32} {a b c : Int32} {e : Nat} {g : Nat → Int32} (he : e ≤ 30) : px_sc Z N F (upd (upd (upd Z 18 a) 19 b) 20 c) (upd N 26 (nI e)) (va_up F 26 g) := by
  refine ⟨fun i hi => ?_, fun q hq => px_upd_ne N _ (by omega), fun q hq => px_up_ne F _ (by omega), fun h => ?_⟩
  · rw [px_upd_ne _ _ (by omega), px_upd_ne _ _ (by omega), px_upd_ne _ _ (by omega)]
  · refine ⟨h.1, h.2.1, h.2.2.1, fun q hq => ?_⟩
    by_cases c : q = 26
    · subst c
      rw [px_upd_self]
      exact ⟨nI_pos' (by omega), by rw [nI_toInt (by omega)]; exact Int.ofNat_le.mpr he⟩
    · rw [px_upd_ne N _ c]
      exact h.2.2.2 q hq
theorem cv_speakE {Z N : Nat → Int32} {F : Nat → Nat → Int32} {kk vv : Int32} (h1 : ∃ kd : Nat, kd < 7 ∧ kk = nI kd) (h2 : ∃ vo : Nat, vo < 4 ∧ vv = nI vo) (nu ma x : Int32) : px_PM 6 43 [.ref 63, .int kk, .int nu, .int ma, .int vv, .int x] (px_CH Z N F, []) (fun r h' => r = some (.int (s_speak kk nu ma vv x)) ∧ ∃ (Z' : Nat → Int32) (e : Nat) (g : Nat → Int32), Z' = upd (upd (upd Z 18 kk) 19 nu) 20 ma ∧ e ≤ 30 ∧ h' = (px_CH Z' (upd N 26 (nI e)) (va_up F 26 g), [])) := by
  obtain ⟨kd, hkd, rfl⟩ := h1
  obtain ⟨vo, hvo, rfl⟩ := h2
  exact cv_speak hkd hvo nu ma x
theorem px_lt4 {i : Int32} {n : Nat} (hn : n < 1000) (c0 : ¬ (i < 0)) (c1 : i ≤ nI n) : ∃ k : Nat, k < n + 1 ∧ i = nI k := by
  obtain ⟨k, hk, rfl⟩ := nI_of c0
  rw [nI_leI (by omega) (by omega)] at c1
  exact ⟨k, by omega, rfl⟩
def s_voice (Z N : Nat → Int32) (F : Nat → Nat → Int32) (thing : Int32) (voice : Int32) (x : Int32) : Int32 := (if thing < 0 ∨ (N 1) ≤ thing then (-1000000000 - 1) else (if voice < 0 then (-1000000000 - 1) else (if voice ≤ 3 then (if voice = 3 then (if ((F 2) (thing).toNatClampNeg) = thing then (-1000000000 - 6) else (s_speak ((F 1) (thing).toNatClampNeg) thing ((F 2) (thing).toNatClampNeg) voice x)) else (s_speak ((F 1) (thing).toNatClampNeg) thing ((F 2) (thing).toNatClampNeg) voice x)) else (-1000000000 - 1))))
theorem kc_voice {Z N : Nat → Int32} {F : Nat → Nat → Int32} (hw : px_cw N) (hT : N 2 = N 1 ∧ N 3 = N 1 ∧ N 4 = N 1) (hkd : ∀ t : Int32, ¬ (t < 0 ∨ N 1 ≤ t) → ∃ kd : Nat, kd < 7 ∧ F 1 t.toNatClampNeg = nI kd) (thing : Int32) (voice : Int32) (x : Int32) : px_PM 7 73 [.ref 0, .int thing, .int voice, .int x] (px_CH Z N F, []) (fun r h' => r = some (.int (s_voice Z N F thing voice x)) ∧ ∃ Z' N' F', px_sc Z N F Z' N' F' ∧ h' = (px_CH Z' N' F', [])) := by
  refine px_PM.start (nL := 5) (code := pc_73) rfl rfl ?_
  refine px_PW.steps kt_73.2 2 rfl ?_
  refine px_PW.callV kt_73.2 rfl rfl rfl rfl (cc_isThing _) (by decide) (fun v h1 q => ?_)
  obtain ⟨rfl, rfl⟩ := q
  refine px_PW.steps kt_73.2 1 rfl ?_
  refine px_PW.br (fun c0 => ?_) (fun c0 => ?_)
  · have c0 : thing < 0 ∨ (N 1) ≤ thing := px_b0z (of_decide_eq_true c0)
    refine px_PW.steps kt_73.2 2 rfl ?_
    refine px_PW.callV kt_73.2 rfl rfl rfl rfl (cc_error hw.2.2.1 1 (by decide)) (by decide) (fun v h1 q => ?_)
    obtain ⟨rfl, rfl⟩ := q
    refine px_PW.ret kt_73.2 rfl rfl ?_
    have E : s_voice Z N F thing voice x = (-1000000000 - 1) := if_pos c0
    rw [E]
    exact ⟨rfl, _, _, _, px_sc.err, rfl⟩
  · have c0 : ¬ (thing < 0 ∨ (N 1) ≤ thing) := px_b0n (of_decide_eq_false c0)
    refine px_PW.steps kt_73.2 2 rfl ?_
    refine px_PW.br (fun c1 => ?_) (fun c1 => ?_)
    · have c1 : voice < 0 := of_decide_eq_true c1
      refine px_PW.steps kt_73.2 2 rfl ?_
      refine px_PW.callV kt_73.2 rfl rfl rfl rfl (cc_error hw.2.2.1 1 (by decide)) (by decide) (fun v h1 q => ?_)
      obtain ⟨rfl, rfl⟩ := q
      refine px_PW.ret kt_73.2 rfl rfl ?_
      have E : s_voice Z N F thing voice x = (-1000000000 - 1) := (if_neg c0).trans (if_pos c1)
      rw [E]
      exact ⟨rfl, _, _, _, px_sc.err, rfl⟩
    · have c1 : ¬ (voice < 0) := of_decide_eq_false c1
      refine px_PW.steps kt_73.2 3 rfl ?_
      refine px_PW.br (fun c2 => ?_) (fun c2 => ?_)
      · have c2 : voice ≤ 3 := of_decide_eq_true c2
        refine px_PW.steps kt_73.2 4 rfl ?_
        refine px_PW.callV kt_73.2 rfl rfl rfl rfl (nb_getT (q := 2) (by decide) (hw.lim (by decide)) hT.1 c0) (by decide) (fun v h1 q => ?_)
        obtain ⟨rfl, rfl⟩ := q
        refine px_PW.steps kt_73.2 4 rfl ?_
        refine px_PW.br (fun c3 => ?_) (fun c3 => ?_)
        · have c3 : ¬ (voice = 3) := of_decide_eq_false (px_nt c3)
          refine px_PW.steps kt_73.2 6 rfl ?_
          refine px_PW.callV kt_73.2 rfl rfl rfl rfl (nb_getT (q := 1) (by decide) (hw.lim (by decide)) rfl c0) (by decide) (fun v h1 q => ?_)
          obtain ⟨rfl, rfl⟩ := q
          refine px_PW.steps kt_73.2 4 rfl ?_
          refine px_PW.callV kt_73.2 rfl rfl rfl rfl (cv_speakE (hkd _ c0) (px_lt4 (n := 3) (by decide) c1 c2) _ _ _) (by decide) (fun v h1 q => ?_)
          obtain ⟨rfl, Z9, e9, g9, rfl, he9, rfl⟩ := q
          refine px_PW.ret kt_73.2 rfl rfl ?_
          have E : s_voice Z N F thing voice x = (s_speak ((F 1) (thing).toNatClampNeg) thing ((F 2) (thing).toNatClampNeg) voice x) := (if_neg c0).trans ((if_neg c1).trans ((if_pos c2).trans (if_neg c3)))
          rw [E]
          exact ⟨rfl, _, _, _, px_sc26 he9, rfl⟩
        · have c3 : voice = 3 := of_decide_eq_true (px_nf c3)
          refine px_PW.steps kt_73.2 3 rfl ?_
          refine px_PW.br (fun c4 => ?_) (fun c4 => ?_)
          · have c4 : ¬ (((F 2) (thing).toNatClampNeg) = thing) := of_decide_eq_false (px_nt c4)
            refine px_PW.steps kt_73.2 6 rfl ?_
            refine px_PW.callV kt_73.2 rfl rfl rfl rfl (nb_getT (q := 1) (by decide) (hw.lim (by decide)) rfl c0) (by decide) (fun v h1 q => ?_)
            obtain ⟨rfl, rfl⟩ := q
            refine px_PW.steps kt_73.2 4 rfl ?_
            refine px_PW.callV kt_73.2 rfl rfl rfl rfl (cv_speakE (hkd _ c0) (px_lt4 (n := 3) (by decide) c1 c2) _ _ _) (by decide) (fun v h1 q => ?_)
            obtain ⟨rfl, Z9, e9, g9, rfl, he9, rfl⟩ := q
            refine px_PW.ret kt_73.2 rfl rfl ?_
            have E : s_voice Z N F thing voice x = (s_speak ((F 1) (thing).toNatClampNeg) thing ((F 2) (thing).toNatClampNeg) voice x) := (if_neg c0).trans ((if_neg c1).trans ((if_pos c2).trans ((if_pos c3).trans (if_neg c4))))
            rw [E]
            exact ⟨rfl, _, _, _, px_sc26 he9, rfl⟩
          · have c4 : ((F 2) (thing).toNatClampNeg) = thing := of_decide_eq_true (px_nf c4)
            refine px_PW.steps kt_73.2 2 rfl ?_
            refine px_PW.callV kt_73.2 rfl rfl rfl rfl (cc_error hw.2.2.1 6 (by decide)) (by decide) (fun v h1 q => ?_)
            obtain ⟨rfl, rfl⟩ := q
            refine px_PW.ret kt_73.2 rfl rfl ?_
            have E : s_voice Z N F thing voice x = (-1000000000 - 6) := (if_neg c0).trans ((if_neg c1).trans ((if_pos c2).trans ((if_pos c3).trans (if_pos c4))))
            rw [E]
            exact ⟨rfl, _, _, _, px_sc.err, rfl⟩
      · have c2 : ¬ (voice ≤ 3) := of_decide_eq_false c2
        refine px_PW.steps kt_73.2 2 rfl ?_
        refine px_PW.callV kt_73.2 rfl rfl rfl rfl (cc_error hw.2.2.1 1 (by decide)) (by decide) (fun v h1 q => ?_)
        obtain ⟨rfl, rfl⟩ := q
        refine px_PW.ret kt_73.2 rfl rfl ?_
        have E : s_voice Z N F thing voice x = (-1000000000 - 1) := (if_neg c0).trans ((if_neg c1).trans (if_neg c2))
        rw [E]
        exact ⟨rfl, _, _, _, px_sc.err, rfl⟩
def zz_st (f : Nat → Int32) : List Int32 → Prop
  | [] => True
  | v :: r => f r.length = v ∧ zz_st f r
theorem zz_st_up {f : Nat → Int32} {v : Int32} : ∀ (l : List Int32) (n : Nat), l.length ≤ n → zz_st f l → zz_st (upd f n v) l
  | [], _, _, _ => trivial
  | a :: r, n, hn, h => by
    simp only [List.length_cons] at hn
    exact ⟨by rw [px_upd_ne f v (by omega)]; exact h.1, zz_st_up r n (by omega) h.2⟩
theorem zz_st_push {f : Nat → Int32} {v : Int32} {l : List Int32} (h : zz_st f l) : zz_st (upd f l.length v) (v :: l) := ⟨px_upd_self f _ v, zz_st_up l _ (Nat.le_refl _) h⟩
theorem zz_st_tail {f : Nat → Int32} {l : List Int32} (h : zz_st f l) : zz_st f l.tail := by
  cases l with
  | nil => exact h
  | cons a r => exact h.2
theorem nb_popS {Z N : Nat → Int32} {F : Nat → Nat → Int32} {q : Nat} (hq : q < 27) {l : List Int32} (hN : N q = nI l.length) (hl : l.length ≤ px_lim q) (hs : zz_st (F q) l) : px_PM 1 9 [.ref (px_O q)] (px_CH Z N F, []) (fun r h' => r = some (.int (l.headD 0)) ∧ h' = (px_CH Z (upd N q (nI l.tail.length)) F, [])) := by
  have hb := (px_lim_i hq).2
  have h := nb_pop (Z := Z) (N := N) (F := F) hq (by rw [hN, nI_toInt (by omega)]; omega)
  cases l with
  | nil =>
    have e : ¬ ((1 : Int32) ≤ N q) := by rw [hN]; decide
    rw [if_neg e, if_neg e] at h
    have e2 : upd N q (nI ([] : List Int32).tail.length) = N := by rw [show ([] : List Int32).tail.length = ([] : List Int32).length from rfl, ← hN, zz_ui]
    rw [e2]
    exact h
  | cons v r =>
    simp only [List.length_cons] at hN hl
    have e : (1 : Int32) ≤ N q := by rw [hN]; exact (nI_leI (a := 1) (by omega) (by omega)).mpr (by omega)
    rw [if_pos e, if_pos e, hN, nI_pred, nI_clamp (by omega), hs.1] at h
    exact h
theorem nb_pushS {Z N : Nat → Int32} {F : Nat → Nat → Int32} {q : Nat} (hq : q < 27) {l : List Int32} (hN : N q = nI l.length) (hl : l.length < px_lim q) (v : Int32) : px_PM 1 8 [.ref (px_O q), .int v] (px_CH Z N F, []) (fun r h' => r = none ∧ h' = (px_CH Z (upd N q (nI (v :: l).length)) (va_up F q (upd (F q) l.length v)), [])) := nb_addN hq hN hl v
def s_join (sg y x : Int32) : Int32 := (if sg = 37 then (i_rem x y) else (if sg = 38 then (if x = 0 then 0 else (if y = 0 then 0 else 1)) else (if sg = 42 then (x * y) else (if sg = 43 then (x + y) else (if sg = 45 then (x - y) else (if sg = 47 then (i_quo x y) else (if sg = 60 then (if y ≤ x then 0 else 1) else (if sg = 61 then (if x = y then 1 else 0) else (if sg = 62 then (if x ≤ y then 0 else 1) else (if sg = 124 then (if x = 0 then (if y = 0 then 0 else 1) else 1) else 0))))))))))
theorem px_swd_23_17 {x : Int32} (c0 : ¬ (x = 37)) (c1 : ¬ (x = 38)) (c2 : ¬ (x = 42)) (c3 : ¬ (x = 43)) (c4 : ¬ (x = 45)) (c5 : ¬ (x = 47)) (c6 : ¬ (x = 60)) (c7 : ¬ (x = 61)) (c8 : ¬ (x = 62)) (c9 : ¬ (x = 124)) : px_lk [(37, 202), (38, 125), (42, 192), (43, 184), (45, 188), (47, 196), (60, 142), (61, 156), (62, 170), (124, 108)] 208 x.toInt = 208 := by
  have d0 : ¬ (x.toInt = 37) := fun h => c0 (px_i_of h (by decide +kernel))
  have d1 : ¬ (x.toInt = 38) := fun h => c1 (px_i_of h (by decide +kernel))
  have d2 : ¬ (x.toInt = 42) := fun h => c2 (px_i_of h (by decide +kernel))
  have d3 : ¬ (x.toInt = 43) := fun h => c3 (px_i_of h (by decide +kernel))
  have d4 : ¬ (x.toInt = 45) := fun h => c4 (px_i_of h (by decide +kernel))
  have d5 : ¬ (x.toInt = 47) := fun h => c5 (px_i_of h (by decide +kernel))
  have d6 : ¬ (x.toInt = 60) := fun h => c6 (px_i_of h (by decide +kernel))
  have d7 : ¬ (x.toInt = 61) := fun h => c7 (px_i_of h (by decide +kernel))
  have d8 : ¬ (x.toInt = 62) := fun h => c8 (px_i_of h (by decide +kernel))
  have d9 : ¬ (x.toInt = 124) := fun h => c9 (px_i_of h (by decide +kernel))
  simp only [px_lk, decide_eq_false (fun h : (37 : Int) = x.toInt => d0 h.symm), decide_eq_false (fun h : (38 : Int) = x.toInt => d1 h.symm), decide_eq_false (fun h : (42 : Int) = x.toInt => d2 h.symm), decide_eq_false (fun h : (43 : Int) = x.toInt => d3 h.symm), decide_eq_false (fun h : (45 : Int) = x.toInt => d4 h.symm), decide_eq_false (fun h : (47 : Int) = x.toInt => d5 h.symm), decide_eq_false (fun h : (60 : Int) = x.toInt => d6 h.symm), decide_eq_false (fun h : (61 : Int) = x.toInt => d7 h.symm), decide_eq_false (fun h : (62 : Int) = x.toInt => d8 h.symm), decide_eq_false (fun h : (124 : Int) = x.toInt => d9 h.symm)]
  rfl
theorem cv_join {Z N : Nat → Int32} {F : Nat → Nat → Int32} {st : List Int32} (hN : N 25 = nI st.length) (hl : st.length ≤ 60) (hs : zz_st (F 25) st) (sg : Int32) : px_PM 2 23 [.ref 60, .int sg] (px_CH Z N F, []) (fun r h' => r = some (.int (s_join sg (st.headD 0) (st.tail.headD 0))) ∧ h' = (px_CH Z (upd N 25 (nI st.tail.tail.length)) F, [])) := by
  refine px_PM.start (nL := 4) (code := pc_23) rfl rfl ?_
  refine px_PW.steps kt_23.2 2 rfl ?_
  refine px_PW.callV kt_23.2 rfl rfl rfl rfl (nb_popS (N := N) (q := 25) (l := st) (by decide) hN hl hs) (by decide) (fun v h1 q => ?_)
  obtain ⟨rfl, rfl⟩ := q
  refine px_PW.steps kt_23.2 3 rfl ?_
  refine px_PW.callV kt_23.2 rfl rfl rfl rfl (nb_popS (N := (upd N 25 (nI st.tail.length))) (q := 25) (l := st.tail) (by decide) rfl (by show st.tail.length ≤ 60; rw [List.length_tail]; omega) (zz_st_tail hs)) (by decide) (fun v h1 q => ?_)
  obtain ⟨rfl, rfl⟩ := q
  refine px_PW.steps kt_23.2 3 rfl ?_
  by_cases c0 : sg = 37
  · refine px_PW.at (pc' := 202) (show px_lk [(37, 202), (38, 125), (42, 192), (43, 184), (45, 188), (47, 196), (60, 142), (61, 156), (62, 170), (124, 108)] 208 (sg : Int32).toInt = 202 by rw [c0]; rfl) ?_
    refine px_PW.steps kt_23.2 2 rfl ?_
    refine px_PW.callS kt_23.2 rfl rfl rfl (cc_rest _ _ _) (by decide) (fun v h1 q => ?_)
    obtain ⟨rfl, rfl⟩ := q
    refine px_PW.ret kt_23.2 rfl rfl ?_
    exact ⟨congrArg (fun z => some (Value.int z)) (show s_join sg (st.headD 0) (st.tail.headD 0) = (i_rem (st.tail.headD 0) (st.headD 0)) from if_pos c0).symm, by rw [zz_uu]⟩
  · skip
    by_cases c1 : sg = 38
    · refine px_PW.at (pc' := 125) (show px_lk [(37, 202), (38, 125), (42, 192), (43, 184), (45, 188), (47, 196), (60, 142), (61, 156), (62, 170), (124, 108)] 208 (sg : Int32).toInt = 125 by rw [c1]; rfl) ?_
      refine px_PW.steps kt_23.2 2 rfl ?_
      refine px_PW.br (fun c2 => ?_) (fun c2 => ?_)
      · have c2 : (st.tail.headD 0) = 0 := of_decide_eq_true c2
        refine px_PW.steps kt_23.2 1 rfl ?_
        refine px_PW.callS kt_23.2 rfl rfl rfl (cc_truth _ _) (by decide) (fun v h1 q => ?_)
        obtain ⟨rfl, rfl⟩ := q
        refine px_PW.ret kt_23.2 rfl rfl ?_
        exact ⟨congrArg (fun z => some (Value.int z)) (show s_join sg (st.headD 0) (st.tail.headD 0) = 0 from (if_neg c0).trans ((if_pos c1).trans (if_pos c2))).symm, by rw [zz_uu]⟩
      · have c2 : ¬ ((st.tail.headD 0) = 0) := of_decide_eq_false c2
        refine px_PW.steps kt_23.2 2 rfl ?_
        refine px_PW.br (fun c3 => ?_) (fun c3 => ?_)
        · have c3 : (st.headD 0) = 0 := of_decide_eq_true c3
          refine px_PW.steps kt_23.2 1 rfl ?_
          refine px_PW.callS kt_23.2 rfl rfl rfl (cc_truth _ _) (by decide) (fun v h1 q => ?_)
          obtain ⟨rfl, rfl⟩ := q
          refine px_PW.ret kt_23.2 rfl rfl ?_
          exact ⟨congrArg (fun z => some (Value.int z)) (show s_join sg (st.headD 0) (st.tail.headD 0) = 0 from (if_neg c0).trans ((if_pos c1).trans ((if_neg c2).trans (if_pos c3)))).symm, by rw [zz_uu]⟩
        · have c3 : ¬ ((st.headD 0) = 0) := of_decide_eq_false c3
          refine px_PW.steps kt_23.2 2 rfl ?_
          refine px_PW.callS kt_23.2 rfl rfl rfl (cc_truth _ _) (by decide) (fun v h1 q => ?_)
          obtain ⟨rfl, rfl⟩ := q
          refine px_PW.ret kt_23.2 rfl rfl ?_
          exact ⟨congrArg (fun z => some (Value.int z)) (show s_join sg (st.headD 0) (st.tail.headD 0) = 1 from (if_neg c0).trans ((if_pos c1).trans ((if_neg c2).trans (if_neg c3)))).symm, by rw [zz_uu]⟩
    · skip
      by_cases c4 : sg = 42
      · refine px_PW.at (pc' := 192) (show px_lk [(37, 202), (38, 125), (42, 192), (43, 184), (45, 188), (47, 196), (60, 142), (61, 156), (62, 170), (124, 108)] 208 (sg : Int32).toInt = 192 by rw [c4]; rfl) ?_
        refine px_PW.steps kt_23.2 3 rfl ?_
        refine px_PW.ret kt_23.2 rfl rfl ?_
        exact ⟨congrArg (fun z => some (Value.int z)) (show s_join sg (st.headD 0) (st.tail.headD 0) = ((st.tail.headD 0) * (st.headD 0)) from (if_neg c0).trans ((if_neg c1).trans (if_pos c4))).symm, by rw [zz_uu]⟩
      · skip
        by_cases c5 : sg = 43
        · refine px_PW.at (pc' := 184) (show px_lk [(37, 202), (38, 125), (42, 192), (43, 184), (45, 188), (47, 196), (60, 142), (61, 156), (62, 170), (124, 108)] 208 (sg : Int32).toInt = 184 by rw [c5]; rfl) ?_
          refine px_PW.steps kt_23.2 3 rfl ?_
          refine px_PW.ret kt_23.2 rfl rfl ?_
          exact ⟨congrArg (fun z => some (Value.int z)) (show s_join sg (st.headD 0) (st.tail.headD 0) = ((st.tail.headD 0) + (st.headD 0)) from (if_neg c0).trans ((if_neg c1).trans ((if_neg c4).trans (if_pos c5)))).symm, by rw [zz_uu]⟩
        · skip
          by_cases c6 : sg = 45
          · refine px_PW.at (pc' := 188) (show px_lk [(37, 202), (38, 125), (42, 192), (43, 184), (45, 188), (47, 196), (60, 142), (61, 156), (62, 170), (124, 108)] 208 (sg : Int32).toInt = 188 by rw [c6]; rfl) ?_
            refine px_PW.steps kt_23.2 3 rfl ?_
            refine px_PW.ret kt_23.2 rfl rfl ?_
            exact ⟨congrArg (fun z => some (Value.int z)) (show s_join sg (st.headD 0) (st.tail.headD 0) = ((st.tail.headD 0) - (st.headD 0)) from (if_neg c0).trans ((if_neg c1).trans ((if_neg c4).trans ((if_neg c5).trans (if_pos c6))))).symm, by rw [zz_uu]⟩
          · skip
            by_cases c7 : sg = 47
            · refine px_PW.at (pc' := 196) (show px_lk [(37, 202), (38, 125), (42, 192), (43, 184), (45, 188), (47, 196), (60, 142), (61, 156), (62, 170), (124, 108)] 208 (sg : Int32).toInt = 196 by rw [c7]; rfl) ?_
              refine px_PW.steps kt_23.2 2 rfl ?_
              refine px_PW.callS kt_23.2 rfl rfl rfl (cc_quot _ _ _) (by decide) (fun v h1 q => ?_)
              obtain ⟨rfl, rfl⟩ := q
              refine px_PW.ret kt_23.2 rfl rfl ?_
              exact ⟨congrArg (fun z => some (Value.int z)) (show s_join sg (st.headD 0) (st.tail.headD 0) = (i_quo (st.tail.headD 0) (st.headD 0)) from (if_neg c0).trans ((if_neg c1).trans ((if_neg c4).trans ((if_neg c5).trans ((if_neg c6).trans (if_pos c7)))))).symm, by rw [zz_uu]⟩
            · skip
              by_cases c8 : sg = 60
              · refine px_PW.at (pc' := 142) (show px_lk [(37, 202), (38, 125), (42, 192), (43, 184), (45, 188), (47, 196), (60, 142), (61, 156), (62, 170), (124, 108)] 208 (sg : Int32).toInt = 142 by rw [c8]; rfl) ?_
                refine px_PW.steps kt_23.2 3 rfl ?_
                refine px_PW.br (fun c9 => ?_) (fun c9 => ?_)
                · have c9 : (st.headD 0) ≤ (st.tail.headD 0) := of_decide_eq_true c9
                  refine px_PW.steps kt_23.2 1 rfl ?_
                  refine px_PW.callS kt_23.2 rfl rfl rfl (cc_truth _ _) (by decide) (fun v h1 q => ?_)
                  obtain ⟨rfl, rfl⟩ := q
                  refine px_PW.ret kt_23.2 rfl rfl ?_
                  exact ⟨congrArg (fun z => some (Value.int z)) (show s_join sg (st.headD 0) (st.tail.headD 0) = 0 from (if_neg c0).trans ((if_neg c1).trans ((if_neg c4).trans ((if_neg c5).trans ((if_neg c6).trans ((if_neg c7).trans ((if_pos c8).trans (if_pos c9)))))))).symm, by rw [zz_uu]⟩
                · have c9 : ¬ ((st.headD 0) ≤ (st.tail.headD 0)) := of_decide_eq_false c9
                  refine px_PW.steps kt_23.2 2 rfl ?_
                  refine px_PW.callS kt_23.2 rfl rfl rfl (cc_truth _ _) (by decide) (fun v h1 q => ?_)
                  obtain ⟨rfl, rfl⟩ := q
                  refine px_PW.ret kt_23.2 rfl rfl ?_
                  exact ⟨congrArg (fun z => some (Value.int z)) (show s_join sg (st.headD 0) (st.tail.headD 0) = 1 from (if_neg c0).trans ((if_neg c1).trans ((if_neg c4).trans ((if_neg c5).trans ((if_neg c6).trans ((if_neg c7).trans ((if_pos c8).trans (if_neg c9)))))))).symm, by rw [zz_uu]⟩
              · skip
                by_cases c10 : sg = 61
                · refine px_PW.at (pc' := 156) (show px_lk [(37, 202), (38, 125), (42, 192), (43, 184), (45, 188), (47, 196), (60, 142), (61, 156), (62, 170), (124, 108)] 208 (sg : Int32).toInt = 156 by rw [c10]; rfl) ?_
                  refine px_PW.steps kt_23.2 3 rfl ?_
                  refine px_PW.br (fun c11 => ?_) (fun c11 => ?_)
                  · have c11 : ¬ ((st.tail.headD 0) = (st.headD 0)) := of_decide_eq_false (px_nt c11)
                    refine px_PW.steps kt_23.2 1 rfl ?_
                    refine px_PW.callS kt_23.2 rfl rfl rfl (cc_truth _ _) (by decide) (fun v h1 q => ?_)
                    obtain ⟨rfl, rfl⟩ := q
                    refine px_PW.ret kt_23.2 rfl rfl ?_
                    exact ⟨congrArg (fun z => some (Value.int z)) (show s_join sg (st.headD 0) (st.tail.headD 0) = 0 from (if_neg c0).trans ((if_neg c1).trans ((if_neg c4).trans ((if_neg c5).trans ((if_neg c6).trans ((if_neg c7).trans ((if_neg c8).trans ((if_pos c10).trans (if_neg c11))))))))).symm, by rw [zz_uu]⟩
                  · have c11 : (st.tail.headD 0) = (st.headD 0) := of_decide_eq_true (px_nf c11)
                    refine px_PW.steps kt_23.2 2 rfl ?_
                    refine px_PW.callS kt_23.2 rfl rfl rfl (cc_truth _ _) (by decide) (fun v h1 q => ?_)
                    obtain ⟨rfl, rfl⟩ := q
                    refine px_PW.ret kt_23.2 rfl rfl ?_
                    exact ⟨congrArg (fun z => some (Value.int z)) (show s_join sg (st.headD 0) (st.tail.headD 0) = 1 from (if_neg c0).trans ((if_neg c1).trans ((if_neg c4).trans ((if_neg c5).trans ((if_neg c6).trans ((if_neg c7).trans ((if_neg c8).trans ((if_pos c10).trans (if_pos c11))))))))).symm, by rw [zz_uu]⟩
                · skip
                  by_cases c12 : sg = 62
                  · refine px_PW.at (pc' := 170) (show px_lk [(37, 202), (38, 125), (42, 192), (43, 184), (45, 188), (47, 196), (60, 142), (61, 156), (62, 170), (124, 108)] 208 (sg : Int32).toInt = 170 by rw [c12]; rfl) ?_
                    refine px_PW.steps kt_23.2 3 rfl ?_
                    refine px_PW.br (fun c13 => ?_) (fun c13 => ?_)
                    · have c13 : (st.tail.headD 0) ≤ (st.headD 0) := of_decide_eq_true c13
                      refine px_PW.steps kt_23.2 1 rfl ?_
                      refine px_PW.callS kt_23.2 rfl rfl rfl (cc_truth _ _) (by decide) (fun v h1 q => ?_)
                      obtain ⟨rfl, rfl⟩ := q
                      refine px_PW.ret kt_23.2 rfl rfl ?_
                      exact ⟨congrArg (fun z => some (Value.int z)) (show s_join sg (st.headD 0) (st.tail.headD 0) = 0 from (if_neg c0).trans ((if_neg c1).trans ((if_neg c4).trans ((if_neg c5).trans ((if_neg c6).trans ((if_neg c7).trans ((if_neg c8).trans ((if_neg c10).trans ((if_pos c12).trans (if_pos c13)))))))))).symm, by rw [zz_uu]⟩
                    · have c13 : ¬ ((st.tail.headD 0) ≤ (st.headD 0)) := of_decide_eq_false c13
                      refine px_PW.steps kt_23.2 2 rfl ?_
                      refine px_PW.callS kt_23.2 rfl rfl rfl (cc_truth _ _) (by decide) (fun v h1 q => ?_)
                      obtain ⟨rfl, rfl⟩ := q
                      refine px_PW.ret kt_23.2 rfl rfl ?_
                      exact ⟨congrArg (fun z => some (Value.int z)) (show s_join sg (st.headD 0) (st.tail.headD 0) = 1 from (if_neg c0).trans ((if_neg c1).trans ((if_neg c4).trans ((if_neg c5).trans ((if_neg c6).trans ((if_neg c7).trans ((if_neg c8).trans ((if_neg c10).trans ((if_pos c12).trans (if_neg c13)))))))))).symm, by rw [zz_uu]⟩
                  · skip
                    by_cases c14 : sg = 124
                    · refine px_PW.at (pc' := 108) (show px_lk [(37, 202), (38, 125), (42, 192), (43, 184), (45, 188), (47, 196), (60, 142), (61, 156), (62, 170), (124, 108)] 208 (sg : Int32).toInt = 108 by rw [c14]; rfl) ?_
                      refine px_PW.steps kt_23.2 2 rfl ?_
                      refine px_PW.br (fun c15 => ?_) (fun c15 => ?_)
                      · have c15 : ¬ ((st.tail.headD 0) = 0) := of_decide_eq_false (px_nt c15)
                        refine px_PW.steps kt_23.2 2 rfl ?_
                        refine px_PW.callS kt_23.2 rfl rfl rfl (cc_truth _ _) (by decide) (fun v h1 q => ?_)
                        obtain ⟨rfl, rfl⟩ := q
                        refine px_PW.ret kt_23.2 rfl rfl ?_
                        exact ⟨congrArg (fun z => some (Value.int z)) (show s_join sg (st.headD 0) (st.tail.headD 0) = 1 from (if_neg c0).trans ((if_neg c1).trans ((if_neg c4).trans ((if_neg c5).trans ((if_neg c6).trans ((if_neg c7).trans ((if_neg c8).trans ((if_neg c10).trans ((if_neg c12).trans ((if_pos c14).trans (if_neg c15))))))))))).symm, by rw [zz_uu]⟩
                      · have c15 : (st.tail.headD 0) = 0 := of_decide_eq_true (px_nf c15)
                        refine px_PW.steps kt_23.2 2 rfl ?_
                        refine px_PW.br (fun c16 => ?_) (fun c16 => ?_)
                        · have c16 : (st.headD 0) = 0 := of_decide_eq_true c16
                          refine px_PW.steps kt_23.2 1 rfl ?_
                          refine px_PW.callS kt_23.2 rfl rfl rfl (cc_truth _ _) (by decide) (fun v h1 q => ?_)
                          obtain ⟨rfl, rfl⟩ := q
                          refine px_PW.ret kt_23.2 rfl rfl ?_
                          exact ⟨congrArg (fun z => some (Value.int z)) (show s_join sg (st.headD 0) (st.tail.headD 0) = 0 from (if_neg c0).trans ((if_neg c1).trans ((if_neg c4).trans ((if_neg c5).trans ((if_neg c6).trans ((if_neg c7).trans ((if_neg c8).trans ((if_neg c10).trans ((if_neg c12).trans ((if_pos c14).trans ((if_pos c15).trans (if_pos c16)))))))))))).symm, by rw [zz_uu]⟩
                        · have c16 : ¬ ((st.headD 0) = 0) := of_decide_eq_false c16
                          refine px_PW.steps kt_23.2 2 rfl ?_
                          refine px_PW.callS kt_23.2 rfl rfl rfl (cc_truth _ _) (by decide) (fun v h1 q => ?_)
                          obtain ⟨rfl, rfl⟩ := q
                          refine px_PW.ret kt_23.2 rfl rfl ?_
                          exact ⟨congrArg (fun z => some (Value.int z)) (show s_join sg (st.headD 0) (st.tail.headD 0) = 1 from (if_neg c0).trans ((if_neg c1).trans ((if_neg c4).trans ((if_neg c5).trans ((if_neg c6).trans ((if_neg c7).trans ((if_neg c8).trans ((if_neg c10).trans ((if_neg c12).trans ((if_pos c14).trans ((if_pos c15).trans (if_neg c16)))))))))))).symm, by rw [zz_uu]⟩
                    · skip
                      refine px_PW.at (px_swd_23_17 c0 c1 c4 c5 c6 c7 c8 c10 c12 c14) ?_
                      refine px_PW.steps kt_23.2 1 rfl ?_
                      refine px_PW.ret kt_23.2 rfl rfl ?_
                      exact ⟨congrArg (fun z => some (Value.int z)) (show s_join sg (st.headD 0) (st.tail.headD 0) = 0 from (if_neg c0).trans ((if_neg c1).trans ((if_neg c4).trans ((if_neg c5).trans ((if_neg c6).trans ((if_neg c7).trans ((if_neg c8).trans ((if_neg c10).trans ((if_neg c12).trans (if_neg c14)))))))))).symm, by rw [zz_uu]⟩
/-- one code worked out, on a stack -/
def s_evc (a b c : Int32) (co : Int32) (st : List Int32) : List Int32 := if co = -33 then (if st.headD 0 = 0 then (1 : Int32) else 0) :: st.tail else if co = -3 then c :: st else if co = -2 then b :: st else if co = -1 then a :: st else if co < 0 then s_join (-co) (st.headD 0) (st.tail.headD 0) :: st.tail.tail else co :: st
def s_evs (g : Nat → Int32) (a b c : Int32) : Nat → Nat → List Int32 → List Int32
  | 0, _, st => st
  | m + 1, k, st => s_evs g a b c m (k + 1) (s_evc a b c (g k) st)
theorem s_evc_len (a b c co : Int32) (st : List Int32) : (s_evc a b c co st).length ≤ st.length + 1 := by
  unfold s_evc
  have h1 : st.tail.length ≤ st.length := by rw [List.length_tail]; omega
  have h2 : st.tail.tail.length ≤ st.tail.length := by rw [List.length_tail]; omega
  repeat' split
  all_goals (simp only [List.length_cons]; omega)
theorem px_swd_22_29 {x : Int32} (c0 : ¬ (x = (-33))) (c1 : ¬ (x = (-3))) (c2 : ¬ (x = (-2))) (c3 : ¬ (x = (-1))) : px_lk [((-33), 106), ((-3), 94), ((-2), 83), ((-1), 72)] 134 x.toInt = 134 := by
  have d0 : ¬ (x.toInt = -33) := fun h => c0 (px_i_of h (by decide +kernel))
  have d1 : ¬ (x.toInt = -3) := fun h => c1 (px_i_of h (by decide +kernel))
  have d2 : ¬ (x.toInt = -2) := fun h => c2 (px_i_of h (by decide +kernel))
  have d3 : ¬ (x.toInt = -1) := fun h => c3 (px_i_of h (by decide +kernel))
  simp only [px_lk, decide_eq_false (fun h : (-33 : Int) = x.toInt => d0 h.symm), decide_eq_false (fun h : (-3 : Int) = x.toInt => d1 h.symm), decide_eq_false (fun h : (-2 : Int) = x.toInt => d2 h.symm), decide_eq_false (fun h : (-1 : Int) = x.toInt => d3 h.symm)]
  rfl
theorem c_val6_loop {Z N : Nat → Int32} {F : Nat → Nat → Int32} {n : Nat} (hn : N 6 = nI n) (hn60 : n ≤ 60) {a b c : Int32} {Q : Option Value → px_H → Prop} : ∀ (m k : Nat) (st : List Int32) (f : Nat → Int32) (o6 : Option Value), k + m = n → st.length ≤ k → zz_st f st → (∀ (g : Nat → Int32) (o6 : Option Value), (s_evs (F 6) a b c m k st).length ≤ 60 → zz_st g (s_evs (F 6) a b c m k st) → px_PW 2 pc_22 Q 164 [some (.ref 60), some (.ref 14), some (.int a), some (.int b), some (.int c), some (.int (nI n)), o6] [] (px_CH Z (upd N 25 (nI (s_evs (F 6) a b c m k st).length)) (va_up F 25 g), [])) → px_PW 2 pc_22 Q 10 [some (.ref 60), some (.ref 14), some (.int a), some (.int b), some (.int c), some (.int (nI k)), o6] [] (px_CH Z (upd N 25 (nI st.length)) (va_up F 25 f), [])
  | m, k, st, f, o6, hk, hl, hs, H => by
    refine px_PW.steps kt_22.2 2 rfl ?_
    refine px_PW.callV kt_22.2 rfl rfl rfl rfl (nb_size (q := 6) (by decide)) (by decide) (fun v h1 q => ?_)
    obtain ⟨rfl, rfl⟩ := q
    rw [show upd N 25 (nI st.length) 6 = nI n from hn]
    refine px_PW.steps kt_22.2 1 rfl ?_
    refine px_PW.br (fun c0 => ?_) (fun c0 => ?_)
    · have c0 : (nI n) ≤ (nI k) := of_decide_eq_true c0
      have c0 : n ≤ k := (nI_leI (a := n) (b := k) (by omega) (by omega)).mp c0
      obtain rfl : m = 0 := by omega
      obtain rfl : k = n := by omega
      exact H f _ (by show st.length ≤ 60; omega) hs
    · have c0 : ¬ ((nI n) ≤ (nI k)) := of_decide_eq_false c0
      have c0 : ¬ (n ≤ k) := fun q => c0 ((nI_leI (a := n) (b := k) (by omega) (by omega)).mpr q)
      obtain ⟨m2, rfl⟩ : ∃ m2, m = m2 + 1 := ⟨m - 1, by omega⟩
      refine px_PW.steps kt_22.2 2 rfl ?_
      refine px_PW.callV kt_22.2 rfl rfl rfl rfl (nb_getN (q := 6) (n := k) (L := n) (by decide) hn (show n ≤ px_lim 6 from hn60) (by omega)) (by decide) (fun v h1 q => ?_)
      obtain ⟨rfl, rfl⟩ := q
      refine px_PW.steps kt_22.2 3 rfl ?_
      by_cases c1 : (F 6 k) = (-33)
      · refine px_PW.at (pc' := 106) (show px_lk [((-33), 106), ((-3), 94), ((-2), 83), ((-1), 72)] 134 ((F 6 k) : Int32).toInt = 106 by rw [c1]; rfl) ?_
        refine px_PW.steps kt_22.2 4 rfl ?_
        refine px_PW.callV kt_22.2 rfl rfl rfl rfl (nb_popS (N := (upd N 25 (nI st.length))) (q := 25) (l := st) (by decide) rfl (by have := hl; show _ ≤ 60; first | omega | (simp only [List.length_tail]; omega)) hs) (by decide) (fun v h1 q => ?_)
        obtain ⟨rfl, rfl⟩ := q
        refine px_PW.steps kt_22.2 1 rfl ?_
        refine px_PW.br (fun c2 => ?_) (fun c2 => ?_)
        · have c2 : ¬ ((st.headD 0) = 0) := of_decide_eq_false (px_nt c2)
          refine px_PW.steps kt_22.2 1 rfl ?_
          refine px_PW.callS kt_22.2 rfl rfl rfl (cc_truth _ _) (by decide) (fun v h1 q => ?_)
          obtain ⟨rfl, rfl⟩ := q
          refine px_PW.callV kt_22.2 rfl rfl rfl rfl (nb_pushS (N := (upd (upd N 25 (nI st.length)) 25 (nI st.tail.length))) (q := 25) (l := st.tail) (by decide) rfl (by have := hl; show _ < 60; first | omega | (simp only [List.length_tail]; omega)) _) (by decide) (fun v h1 q => ?_)
          obtain ⟨rfl, rfl⟩ := q
          refine px_PW.steps kt_22.2 3 rfl ?_
          have e0 : s_evc a b c (F 6 k) st = (0 :: st.tail) := (if_pos c1).trans (congrArg (fun z : Int32 => z :: st.tail) (if_neg c2))
          have hl2 := s_evc_len a b c (F 6 k) st
          have hz : zz_st (upd f st.tail.length 0) (s_evc a b c (F 6 k) st) := by rw [e0]; exact (zz_st_push (zz_st_tail hs))
          have g := c_val6_loop hn hn60 (Z := Z) (a := a) (b := b) (c := c) (Q := Q) m2 (k + 1) (s_evc a b c (F 6 k) st) (upd f st.tail.length 0) (some (.int (F 6 k))) (by omega) (by omega) hz H
          rw [e0, nI_succ k] at g
          have e3 : upd N 25 (nI ((0 :: st.tail)).length) = (upd (upd (upd N 25 (nI st.length)) 25 (nI st.tail.length)) 25 (nI (0 :: st.tail).length)) := by rw [zz_uu, zz_uu]
          have e2 : va_up F 25 (upd f st.tail.length 0) = (va_up (va_up F 25 f) 25 (upd f st.tail.length 0)) := by rw [px_up_up]
          rw [e3, e2] at g
          exact g
        · have c2 : (st.headD 0) = 0 := of_decide_eq_true (px_nf c2)
          refine px_PW.steps kt_22.2 2 rfl ?_
          refine px_PW.callS kt_22.2 rfl rfl rfl (cc_truth _ _) (by decide) (fun v h1 q => ?_)
          obtain ⟨rfl, rfl⟩ := q
          refine px_PW.callV kt_22.2 rfl rfl rfl rfl (nb_pushS (N := (upd (upd N 25 (nI st.length)) 25 (nI st.tail.length))) (q := 25) (l := st.tail) (by decide) rfl (by have := hl; show _ < 60; first | omega | (simp only [List.length_tail]; omega)) _) (by decide) (fun v h1 q => ?_)
          obtain ⟨rfl, rfl⟩ := q
          refine px_PW.steps kt_22.2 3 rfl ?_
          have e0 : s_evc a b c (F 6 k) st = (1 :: st.tail) := (if_pos c1).trans (congrArg (fun z : Int32 => z :: st.tail) (if_pos c2))
          have hl2 := s_evc_len a b c (F 6 k) st
          have hz : zz_st (upd f st.tail.length 1) (s_evc a b c (F 6 k) st) := by rw [e0]; exact (zz_st_push (zz_st_tail hs))
          have g := c_val6_loop hn hn60 (Z := Z) (a := a) (b := b) (c := c) (Q := Q) m2 (k + 1) (s_evc a b c (F 6 k) st) (upd f st.tail.length 1) (some (.int (F 6 k))) (by omega) (by omega) hz H
          rw [e0, nI_succ k] at g
          have e3 : upd N 25 (nI ((1 :: st.tail)).length) = (upd (upd (upd N 25 (nI st.length)) 25 (nI st.tail.length)) 25 (nI (1 :: st.tail).length)) := by rw [zz_uu, zz_uu]
          have e2 : va_up F 25 (upd f st.tail.length 1) = (va_up (va_up F 25 f) 25 (upd f st.tail.length 1)) := by rw [px_up_up]
          rw [e3, e2] at g
          exact g
      · skip
        by_cases c3 : (F 6 k) = (-3)
        · refine px_PW.at (pc' := 94) (show px_lk [((-33), 106), ((-3), 94), ((-2), 83), ((-1), 72)] 134 ((F 6 k) : Int32).toInt = 94 by rw [c3]; rfl) ?_
          refine px_PW.steps kt_22.2 3 rfl ?_
          refine px_PW.callV kt_22.2 rfl rfl rfl rfl (nb_pushS (N := (upd N 25 (nI st.length))) (q := 25) (l := st) (by decide) rfl (by have := hl; show _ < 60; first | omega | (simp only [List.length_tail]; omega)) _) (by decide) (fun v h1 q => ?_)
          obtain ⟨rfl, rfl⟩ := q
          refine px_PW.steps kt_22.2 3 rfl ?_
          have e0 : s_evc a b c (F 6 k) st = (c :: st) := (if_neg c1).trans (if_pos c3)
          have hl2 := s_evc_len a b c (F 6 k) st
          have hz : zz_st (upd f st.length c) (s_evc a b c (F 6 k) st) := by rw [e0]; exact (zz_st_push hs)
          have g := c_val6_loop hn hn60 (Z := Z) (a := a) (b := b) (c := c) (Q := Q) m2 (k + 1) (s_evc a b c (F 6 k) st) (upd f st.length c) (some (.int (F 6 k))) (by omega) (by omega) hz H
          rw [e0, nI_succ k] at g
          have e3 : upd N 25 (nI ((c :: st)).length) = (upd (upd N 25 (nI st.length)) 25 (nI (c :: st).length)) := by rw [zz_uu]
          have e2 : va_up F 25 (upd f st.length c) = (va_up (va_up F 25 f) 25 (upd f st.length c)) := by rw [px_up_up]
          rw [e3, e2] at g
          exact g
        · skip
          by_cases c4 : (F 6 k) = (-2)
          · refine px_PW.at (pc' := 83) (show px_lk [((-33), 106), ((-3), 94), ((-2), 83), ((-1), 72)] 134 ((F 6 k) : Int32).toInt = 83 by rw [c4]; rfl) ?_
            refine px_PW.steps kt_22.2 3 rfl ?_
            refine px_PW.callV kt_22.2 rfl rfl rfl rfl (nb_pushS (N := (upd N 25 (nI st.length))) (q := 25) (l := st) (by decide) rfl (by have := hl; show _ < 60; first | omega | (simp only [List.length_tail]; omega)) _) (by decide) (fun v h1 q => ?_)
            obtain ⟨rfl, rfl⟩ := q
            refine px_PW.steps kt_22.2 3 rfl ?_
            have e0 : s_evc a b c (F 6 k) st = (b :: st) := (if_neg c1).trans ((if_neg c3).trans (if_pos c4))
            have hl2 := s_evc_len a b c (F 6 k) st
            have hz : zz_st (upd f st.length b) (s_evc a b c (F 6 k) st) := by rw [e0]; exact (zz_st_push hs)
            have g := c_val6_loop hn hn60 (Z := Z) (a := a) (b := b) (c := c) (Q := Q) m2 (k + 1) (s_evc a b c (F 6 k) st) (upd f st.length b) (some (.int (F 6 k))) (by omega) (by omega) hz H
            rw [e0, nI_succ k] at g
            have e3 : upd N 25 (nI ((b :: st)).length) = (upd (upd N 25 (nI st.length)) 25 (nI (b :: st).length)) := by rw [zz_uu]
            have e2 : va_up F 25 (upd f st.length b) = (va_up (va_up F 25 f) 25 (upd f st.length b)) := by rw [px_up_up]
            rw [e3, e2] at g
            exact g
          · skip
            by_cases c5 : (F 6 k) = (-1)
            · refine px_PW.at (pc' := 72) (show px_lk [((-33), 106), ((-3), 94), ((-2), 83), ((-1), 72)] 134 ((F 6 k) : Int32).toInt = 72 by rw [c5]; rfl) ?_
              refine px_PW.steps kt_22.2 3 rfl ?_
              refine px_PW.callV kt_22.2 rfl rfl rfl rfl (nb_pushS (N := (upd N 25 (nI st.length))) (q := 25) (l := st) (by decide) rfl (by have := hl; show _ < 60; first | omega | (simp only [List.length_tail]; omega)) _) (by decide) (fun v h1 q => ?_)
              obtain ⟨rfl, rfl⟩ := q
              refine px_PW.steps kt_22.2 3 rfl ?_
              have e0 : s_evc a b c (F 6 k) st = (a :: st) := (if_neg c1).trans ((if_neg c3).trans ((if_neg c4).trans (if_pos c5)))
              have hl2 := s_evc_len a b c (F 6 k) st
              have hz : zz_st (upd f st.length a) (s_evc a b c (F 6 k) st) := by rw [e0]; exact (zz_st_push hs)
              have g := c_val6_loop hn hn60 (Z := Z) (a := a) (b := b) (c := c) (Q := Q) m2 (k + 1) (s_evc a b c (F 6 k) st) (upd f st.length a) (some (.int (F 6 k))) (by omega) (by omega) hz H
              rw [e0, nI_succ k] at g
              have e3 : upd N 25 (nI ((a :: st)).length) = (upd (upd N 25 (nI st.length)) 25 (nI (a :: st).length)) := by rw [zz_uu]
              have e2 : va_up F 25 (upd f st.length a) = (va_up (va_up F 25 f) 25 (upd f st.length a)) := by rw [px_up_up]
              rw [e3, e2] at g
              exact g
            · skip
              refine px_PW.at (px_swd_22_29 c1 c3 c4 c5) ?_
              refine px_PW.steps kt_22.2 4 rfl ?_
              refine px_PW.br (fun c6 => ?_) (fun c6 => ?_)
              · have c6 : (F 6 k) < 0 := of_decide_eq_true c6
                refine px_PW.steps kt_22.2 3 rfl ?_
                refine px_PW.callV kt_22.2 rfl rfl rfl rfl (cv_join (N := (upd N 25 (nI st.length))) (st := st) rfl (by have := hl; omega) hs _) (by decide) (fun v h1 q => ?_)
                obtain ⟨rfl, rfl⟩ := q
                refine px_PW.callV kt_22.2 rfl rfl rfl rfl (nb_pushS (N := (upd (upd N 25 (nI st.length)) 25 (nI st.tail.tail.length))) (q := 25) (l := st.tail.tail) (by decide) rfl (by have := hl; show _ < 60; first | omega | (simp only [List.length_tail]; omega)) _) (by decide) (fun v h1 q => ?_)
                obtain ⟨rfl, rfl⟩ := q
                refine px_PW.steps kt_22.2 2 rfl ?_
                have e0 : s_evc a b c (F 6 k) st = ((s_join (-(F 6 k)) (st.headD 0) (st.tail.headD 0)) :: st.tail.tail) := (if_neg c1).trans ((if_neg c3).trans ((if_neg c4).trans ((if_neg c5).trans (if_pos c6))))
                have hl2 := s_evc_len a b c (F 6 k) st
                have hz : zz_st (upd f st.tail.tail.length (s_join (-(F 6 k)) (st.headD 0) (st.tail.headD 0))) (s_evc a b c (F 6 k) st) := by rw [e0]; exact (zz_st_push (zz_st_tail (zz_st_tail hs)))
                have g := c_val6_loop hn hn60 (Z := Z) (a := a) (b := b) (c := c) (Q := Q) m2 (k + 1) (s_evc a b c (F 6 k) st) (upd f st.tail.tail.length (s_join (-(F 6 k)) (st.headD 0) (st.tail.headD 0))) (some (.int (F 6 k))) (by omega) (by omega) hz H
                rw [e0, nI_succ k] at g
                have e3 : upd N 25 (nI (((s_join (-(F 6 k)) (st.headD 0) (st.tail.headD 0)) :: st.tail.tail)).length) = (upd (upd (upd N 25 (nI st.length)) 25 (nI st.tail.tail.length)) 25 (nI ((s_join (-(F 6 k)) (st.headD 0) (st.tail.headD 0)) :: st.tail.tail).length)) := by rw [zz_uu, zz_uu]
                have e2 : va_up F 25 (upd f st.tail.tail.length (s_join (-(F 6 k)) (st.headD 0) (st.tail.headD 0))) = (va_up (va_up F 25 f) 25 (upd f st.tail.tail.length (s_join (-(F 6 k)) (st.headD 0) (st.tail.headD 0)))) := by rw [px_up_up]
                rw [e3, e2] at g
                exact g
              · have c6 : ¬ ((F 6 k) < 0) := of_decide_eq_false c6
                refine px_PW.steps kt_22.2 2 rfl ?_
                refine px_PW.callV kt_22.2 rfl rfl rfl rfl (nb_pushS (N := (upd N 25 (nI st.length))) (q := 25) (l := st) (by decide) rfl (by have := hl; show _ < 60; first | omega | (simp only [List.length_tail]; omega)) _) (by decide) (fun v h1 q => ?_)
                obtain ⟨rfl, rfl⟩ := q
                refine px_PW.steps kt_22.2 2 rfl ?_
                have e0 : s_evc a b c (F 6 k) st = ((F 6 k) :: st) := (if_neg c1).trans ((if_neg c3).trans ((if_neg c4).trans ((if_neg c5).trans (if_neg c6))))
                have hl2 := s_evc_len a b c (F 6 k) st
                have hz : zz_st (upd f st.length (F 6 k)) (s_evc a b c (F 6 k) st) := by rw [e0]; exact (zz_st_push hs)
                have g := c_val6_loop hn hn60 (Z := Z) (a := a) (b := b) (c := c) (Q := Q) m2 (k + 1) (s_evc a b c (F 6 k) st) (upd f st.length (F 6 k)) (some (.int (F 6 k))) (by omega) (by omega) hz H
                rw [e0, nI_succ k] at g
                have e3 : upd N 25 (nI (((F 6 k) :: st)).length) = (upd (upd N 25 (nI st.length)) 25 (nI ((F 6 k) :: st).length)) := by rw [zz_uu]
                have e2 : va_up F 25 (upd f st.length (F 6 k)) = (va_up (va_up F 25 f) 25 (upd f st.length (F 6 k))) := by rw [px_up_up]
                rw [e3, e2] at g
                exact g
theorem cv_val6 {Z N : Nat → Int32} {F : Nat → Nat → Int32} {n : Nat} (hn : N 6 = nI n) (hn60 : n ≤ 60) (a b c : Int32) : px_PM 3 22 [.ref 60, .ref 14, .int a, .int b, .int c] (px_CH Z N F, []) (fun r h' => r = some (.int ((s_evs (F 6) a b c n 0 []).headD 0)) ∧ ∃ (e : Nat) (g : Nat → Int32), e ≤ 60 ∧ h' = (px_CH Z (upd N 25 (nI e)) (va_up F 25 g), [])) := by
  refine px_PM.start (nL := 7) (code := pc_22) rfl rfl ?_
  refine px_PW.steps kt_22.2 2 rfl ?_
  refine px_PW.callV kt_22.2 rfl rfl rfl rfl (nb_clear (q := 25) (by decide)) (by decide) (fun v h1 q => ?_)
  obtain ⟨rfl, rfl⟩ := q
  refine px_PW.steps kt_22.2 2 rfl ?_
  refine px_PW.hp (h' := (px_CH Z (upd N 25 (nI ([] : List Int32).length)) (va_up F 25 (F 25)), [])) (by rw [px_up_id]; rfl) ?_
  refine c_val6_loop hn hn60 n 0 [] (F 25) none (by omega) (Nat.le_refl 0) trivial (fun g o6 hle hg => ?_)
  refine px_PW.steps kt_22.2 2 rfl ?_
  refine px_PW.callV kt_22.2 rfl rfl rfl rfl (nb_popS (N := upd N 25 (nI (s_evs (F 6) a b c n 0 []).length)) (q := 25) (l := s_evs (F 6) a b c n 0 []) (by decide) rfl hle hg) (by decide) (fun v h1 q => ?_)
  obtain ⟨rfl, rfl⟩ := q
  refine px_PW.ret kt_22.2 rfl rfl ?_
  exact ⟨rfl, (s_evs (F 6) a b c n 0 []).tail.length, g, by rw [List.length_tail]; omega, by rw [zz_uu]⟩
theorem c_val7_loop {Z N : Nat → Int32} {F : Nat → Nat → Int32} {n : Nat} (hn : N 7 = nI n) (hn60 : n ≤ 60) {a b c : Int32} {Q : Option Value → px_H → Prop} : ∀ (m k : Nat) (st : List Int32) (f : Nat → Int32) (o6 : Option Value), k + m = n → st.length ≤ k → zz_st f st → (∀ (g : Nat → Int32) (o6 : Option Value), (s_evs (F 7) a b c m k st).length ≤ 60 → zz_st g (s_evs (F 7) a b c m k st) → px_PW 2 pc_22 Q 164 [some (.ref 60), some (.ref 16), some (.int a), some (.int b), some (.int c), some (.int (nI n)), o6] [] (px_CH Z (upd N 25 (nI (s_evs (F 7) a b c m k st).length)) (va_up F 25 g), [])) → px_PW 2 pc_22 Q 10 [some (.ref 60), some (.ref 16), some (.int a), some (.int b), some (.int c), some (.int (nI k)), o6] [] (px_CH Z (upd N 25 (nI st.length)) (va_up F 25 f), [])
  | m, k, st, f, o6, hk, hl, hs, H => by
    refine px_PW.steps kt_22.2 2 rfl ?_
    refine px_PW.callV kt_22.2 rfl rfl rfl rfl (nb_size (q := 7) (by decide)) (by decide) (fun v h1 q => ?_)
    obtain ⟨rfl, rfl⟩ := q
    rw [show upd N 25 (nI st.length) 7 = nI n from hn]
    refine px_PW.steps kt_22.2 1 rfl ?_
    refine px_PW.br (fun c0 => ?_) (fun c0 => ?_)
    · have c0 : (nI n) ≤ (nI k) := of_decide_eq_true c0
      have c0 : n ≤ k := (nI_leI (a := n) (b := k) (by omega) (by omega)).mp c0
      obtain rfl : m = 0 := by omega
      obtain rfl : k = n := by omega
      exact H f _ (by show st.length ≤ 60; omega) hs
    · have c0 : ¬ ((nI n) ≤ (nI k)) := of_decide_eq_false c0
      have c0 : ¬ (n ≤ k) := fun q => c0 ((nI_leI (a := n) (b := k) (by omega) (by omega)).mpr q)
      obtain ⟨m2, rfl⟩ : ∃ m2, m = m2 + 1 := ⟨m - 1, by omega⟩
      refine px_PW.steps kt_22.2 2 rfl ?_
      refine px_PW.callV kt_22.2 rfl rfl rfl rfl (nb_getN (q := 7) (n := k) (L := n) (by decide) hn (show n ≤ px_lim 7 from hn60) (by omega)) (by decide) (fun v h1 q => ?_)
      obtain ⟨rfl, rfl⟩ := q
      refine px_PW.steps kt_22.2 3 rfl ?_
      by_cases c1 : (F 7 k) = (-33)
      · refine px_PW.at (pc' := 106) (show px_lk [((-33), 106), ((-3), 94), ((-2), 83), ((-1), 72)] 134 ((F 7 k) : Int32).toInt = 106 by rw [c1]; rfl) ?_
        refine px_PW.steps kt_22.2 4 rfl ?_
        refine px_PW.callV kt_22.2 rfl rfl rfl rfl (nb_popS (N := (upd N 25 (nI st.length))) (q := 25) (l := st) (by decide) rfl (by have := hl; show _ ≤ 60; first | omega | (simp only [List.length_tail]; omega)) hs) (by decide) (fun v h1 q => ?_)
        obtain ⟨rfl, rfl⟩ := q
        refine px_PW.steps kt_22.2 1 rfl ?_
        refine px_PW.br (fun c2 => ?_) (fun c2 => ?_)
        · have c2 : ¬ ((st.headD 0) = 0) := of_decide_eq_false (px_nt c2)
          refine px_PW.steps kt_22.2 1 rfl ?_
          refine px_PW.callS kt_22.2 rfl rfl rfl (cc_truth _ _) (by decide) (fun v h1 q => ?_)
          obtain ⟨rfl, rfl⟩ := q
          refine px_PW.callV kt_22.2 rfl rfl rfl rfl (nb_pushS (N := (upd (upd N 25 (nI st.length)) 25 (nI st.tail.length))) (q := 25) (l := st.tail) (by decide) rfl (by have := hl; show _ < 60; first | omega | (simp only [List.length_tail]; omega)) _) (by decide) (fun v h1 q => ?_)
          obtain ⟨rfl, rfl⟩ := q
          refine px_PW.steps kt_22.2 3 rfl ?_
          have e0 : s_evc a b c (F 7 k) st = (0 :: st.tail) := (if_pos c1).trans (congrArg (fun z : Int32 => z :: st.tail) (if_neg c2))
          have hl2 := s_evc_len a b c (F 7 k) st
          have hz : zz_st (upd f st.tail.length 0) (s_evc a b c (F 7 k) st) := by rw [e0]; exact (zz_st_push (zz_st_tail hs))
          have g := c_val7_loop hn hn60 (Z := Z) (a := a) (b := b) (c := c) (Q := Q) m2 (k + 1) (s_evc a b c (F 7 k) st) (upd f st.tail.length 0) (some (.int (F 7 k))) (by omega) (by omega) hz H
          rw [e0, nI_succ k] at g
          have e3 : upd N 25 (nI ((0 :: st.tail)).length) = (upd (upd (upd N 25 (nI st.length)) 25 (nI st.tail.length)) 25 (nI (0 :: st.tail).length)) := by rw [zz_uu, zz_uu]
          have e2 : va_up F 25 (upd f st.tail.length 0) = (va_up (va_up F 25 f) 25 (upd f st.tail.length 0)) := by rw [px_up_up]
          rw [e3, e2] at g
          exact g
        · have c2 : (st.headD 0) = 0 := of_decide_eq_true (px_nf c2)
          refine px_PW.steps kt_22.2 2 rfl ?_
          refine px_PW.callS kt_22.2 rfl rfl rfl (cc_truth _ _) (by decide) (fun v h1 q => ?_)
          obtain ⟨rfl, rfl⟩ := q
          refine px_PW.callV kt_22.2 rfl rfl rfl rfl (nb_pushS (N := (upd (upd N 25 (nI st.length)) 25 (nI st.tail.length))) (q := 25) (l := st.tail) (by decide) rfl (by have := hl; show _ < 60; first | omega | (simp only [List.length_tail]; omega)) _) (by decide) (fun v h1 q => ?_)
          obtain ⟨rfl, rfl⟩ := q
          refine px_PW.steps kt_22.2 3 rfl ?_
          have e0 : s_evc a b c (F 7 k) st = (1 :: st.tail) := (if_pos c1).trans (congrArg (fun z : Int32 => z :: st.tail) (if_pos c2))
          have hl2 := s_evc_len a b c (F 7 k) st
          have hz : zz_st (upd f st.tail.length 1) (s_evc a b c (F 7 k) st) := by rw [e0]; exact (zz_st_push (zz_st_tail hs))
          have g := c_val7_loop hn hn60 (Z := Z) (a := a) (b := b) (c := c) (Q := Q) m2 (k + 1) (s_evc a b c (F 7 k) st) (upd f st.tail.length 1) (some (.int (F 7 k))) (by omega) (by omega) hz H
          rw [e0, nI_succ k] at g
          have e3 : upd N 25 (nI ((1 :: st.tail)).length) = (upd (upd (upd N 25 (nI st.length)) 25 (nI st.tail.length)) 25 (nI (1 :: st.tail).length)) := by rw [zz_uu, zz_uu]
          have e2 : va_up F 25 (upd f st.tail.length 1) = (va_up (va_up F 25 f) 25 (upd f st.tail.length 1)) := by rw [px_up_up]
          rw [e3, e2] at g
          exact g
      · skip
        by_cases c3 : (F 7 k) = (-3)
        · refine px_PW.at (pc' := 94) (show px_lk [((-33), 106), ((-3), 94), ((-2), 83), ((-1), 72)] 134 ((F 7 k) : Int32).toInt = 94 by rw [c3]; rfl) ?_
          refine px_PW.steps kt_22.2 3 rfl ?_
          refine px_PW.callV kt_22.2 rfl rfl rfl rfl (nb_pushS (N := (upd N 25 (nI st.length))) (q := 25) (l := st) (by decide) rfl (by have := hl; show _ < 60; first | omega | (simp only [List.length_tail]; omega)) _) (by decide) (fun v h1 q => ?_)
          obtain ⟨rfl, rfl⟩ := q
          refine px_PW.steps kt_22.2 3 rfl ?_
          have e0 : s_evc a b c (F 7 k) st = (c :: st) := (if_neg c1).trans (if_pos c3)
          have hl2 := s_evc_len a b c (F 7 k) st
          have hz : zz_st (upd f st.length c) (s_evc a b c (F 7 k) st) := by rw [e0]; exact (zz_st_push hs)
          have g := c_val7_loop hn hn60 (Z := Z) (a := a) (b := b) (c := c) (Q := Q) m2 (k + 1) (s_evc a b c (F 7 k) st) (upd f st.length c) (some (.int (F 7 k))) (by omega) (by omega) hz H
          rw [e0, nI_succ k] at g
          have e3 : upd N 25 (nI ((c :: st)).length) = (upd (upd N 25 (nI st.length)) 25 (nI (c :: st).length)) := by rw [zz_uu]
          have e2 : va_up F 25 (upd f st.length c) = (va_up (va_up F 25 f) 25 (upd f st.length c)) := by rw [px_up_up]
          rw [e3, e2] at g
          exact g
        · skip
          by_cases c4 : (F 7 k) = (-2)
          · refine px_PW.at (pc' := 83) (show px_lk [((-33), 106), ((-3), 94), ((-2), 83), ((-1), 72)] 134 ((F 7 k) : Int32).toInt = 83 by rw [c4]; rfl) ?_
            refine px_PW.steps kt_22.2 3 rfl ?_
            refine px_PW.callV kt_22.2 rfl rfl rfl rfl (nb_pushS (N := (upd N 25 (nI st.length))) (q := 25) (l := st) (by decide) rfl (by have := hl; show _ < 60; first | omega | (simp only [List.length_tail]; omega)) _) (by decide) (fun v h1 q => ?_)
            obtain ⟨rfl, rfl⟩ := q
            refine px_PW.steps kt_22.2 3 rfl ?_
            have e0 : s_evc a b c (F 7 k) st = (b :: st) := (if_neg c1).trans ((if_neg c3).trans (if_pos c4))
            have hl2 := s_evc_len a b c (F 7 k) st
            have hz : zz_st (upd f st.length b) (s_evc a b c (F 7 k) st) := by rw [e0]; exact (zz_st_push hs)
            have g := c_val7_loop hn hn60 (Z := Z) (a := a) (b := b) (c := c) (Q := Q) m2 (k + 1) (s_evc a b c (F 7 k) st) (upd f st.length b) (some (.int (F 7 k))) (by omega) (by omega) hz H
            rw [e0, nI_succ k] at g
            have e3 : upd N 25 (nI ((b :: st)).length) = (upd (upd N 25 (nI st.length)) 25 (nI (b :: st).length)) := by rw [zz_uu]
            have e2 : va_up F 25 (upd f st.length b) = (va_up (va_up F 25 f) 25 (upd f st.length b)) := by rw [px_up_up]
            rw [e3, e2] at g
            exact g
          · skip
            by_cases c5 : (F 7 k) = (-1)
            · refine px_PW.at (pc' := 72) (show px_lk [((-33), 106), ((-3), 94), ((-2), 83), ((-1), 72)] 134 ((F 7 k) : Int32).toInt = 72 by rw [c5]; rfl) ?_
              refine px_PW.steps kt_22.2 3 rfl ?_
              refine px_PW.callV kt_22.2 rfl rfl rfl rfl (nb_pushS (N := (upd N 25 (nI st.length))) (q := 25) (l := st) (by decide) rfl (by have := hl; show _ < 60; first | omega | (simp only [List.length_tail]; omega)) _) (by decide) (fun v h1 q => ?_)
              obtain ⟨rfl, rfl⟩ := q
              refine px_PW.steps kt_22.2 3 rfl ?_
              have e0 : s_evc a b c (F 7 k) st = (a :: st) := (if_neg c1).trans ((if_neg c3).trans ((if_neg c4).trans (if_pos c5)))
              have hl2 := s_evc_len a b c (F 7 k) st
              have hz : zz_st (upd f st.length a) (s_evc a b c (F 7 k) st) := by rw [e0]; exact (zz_st_push hs)
              have g := c_val7_loop hn hn60 (Z := Z) (a := a) (b := b) (c := c) (Q := Q) m2 (k + 1) (s_evc a b c (F 7 k) st) (upd f st.length a) (some (.int (F 7 k))) (by omega) (by omega) hz H
              rw [e0, nI_succ k] at g
              have e3 : upd N 25 (nI ((a :: st)).length) = (upd (upd N 25 (nI st.length)) 25 (nI (a :: st).length)) := by rw [zz_uu]
              have e2 : va_up F 25 (upd f st.length a) = (va_up (va_up F 25 f) 25 (upd f st.length a)) := by rw [px_up_up]
              rw [e3, e2] at g
              exact g
            · skip
              refine px_PW.at (px_swd_22_29 c1 c3 c4 c5) ?_
              refine px_PW.steps kt_22.2 4 rfl ?_
              refine px_PW.br (fun c6 => ?_) (fun c6 => ?_)
              · have c6 : (F 7 k) < 0 := of_decide_eq_true c6
                refine px_PW.steps kt_22.2 3 rfl ?_
                refine px_PW.callV kt_22.2 rfl rfl rfl rfl (cv_join (N := (upd N 25 (nI st.length))) (st := st) rfl (by have := hl; omega) hs _) (by decide) (fun v h1 q => ?_)
                obtain ⟨rfl, rfl⟩ := q
                refine px_PW.callV kt_22.2 rfl rfl rfl rfl (nb_pushS (N := (upd (upd N 25 (nI st.length)) 25 (nI st.tail.tail.length))) (q := 25) (l := st.tail.tail) (by decide) rfl (by have := hl; show _ < 60; first | omega | (simp only [List.length_tail]; omega)) _) (by decide) (fun v h1 q => ?_)
                obtain ⟨rfl, rfl⟩ := q
                refine px_PW.steps kt_22.2 2 rfl ?_
                have e0 : s_evc a b c (F 7 k) st = ((s_join (-(F 7 k)) (st.headD 0) (st.tail.headD 0)) :: st.tail.tail) := (if_neg c1).trans ((if_neg c3).trans ((if_neg c4).trans ((if_neg c5).trans (if_pos c6))))
                have hl2 := s_evc_len a b c (F 7 k) st
                have hz : zz_st (upd f st.tail.tail.length (s_join (-(F 7 k)) (st.headD 0) (st.tail.headD 0))) (s_evc a b c (F 7 k) st) := by rw [e0]; exact (zz_st_push (zz_st_tail (zz_st_tail hs)))
                have g := c_val7_loop hn hn60 (Z := Z) (a := a) (b := b) (c := c) (Q := Q) m2 (k + 1) (s_evc a b c (F 7 k) st) (upd f st.tail.tail.length (s_join (-(F 7 k)) (st.headD 0) (st.tail.headD 0))) (some (.int (F 7 k))) (by omega) (by omega) hz H
                rw [e0, nI_succ k] at g
                have e3 : upd N 25 (nI (((s_join (-(F 7 k)) (st.headD 0) (st.tail.headD 0)) :: st.tail.tail)).length) = (upd (upd (upd N 25 (nI st.length)) 25 (nI st.tail.tail.length)) 25 (nI ((s_join (-(F 7 k)) (st.headD 0) (st.tail.headD 0)) :: st.tail.tail).length)) := by rw [zz_uu, zz_uu]
                have e2 : va_up F 25 (upd f st.tail.tail.length (s_join (-(F 7 k)) (st.headD 0) (st.tail.headD 0))) = (va_up (va_up F 25 f) 25 (upd f st.tail.tail.length (s_join (-(F 7 k)) (st.headD 0) (st.tail.headD 0)))) := by rw [px_up_up]
                rw [e3, e2] at g
                exact g
              · have c6 : ¬ ((F 7 k) < 0) := of_decide_eq_false c6
                refine px_PW.steps kt_22.2 2 rfl ?_
                refine px_PW.callV kt_22.2 rfl rfl rfl rfl (nb_pushS (N := (upd N 25 (nI st.length))) (q := 25) (l := st) (by decide) rfl (by have := hl; show _ < 60; first | omega | (simp only [List.length_tail]; omega)) _) (by decide) (fun v h1 q => ?_)
                obtain ⟨rfl, rfl⟩ := q
                refine px_PW.steps kt_22.2 2 rfl ?_
                have e0 : s_evc a b c (F 7 k) st = ((F 7 k) :: st) := (if_neg c1).trans ((if_neg c3).trans ((if_neg c4).trans ((if_neg c5).trans (if_neg c6))))
                have hl2 := s_evc_len a b c (F 7 k) st
                have hz : zz_st (upd f st.length (F 7 k)) (s_evc a b c (F 7 k) st) := by rw [e0]; exact (zz_st_push hs)
                have g := c_val7_loop hn hn60 (Z := Z) (a := a) (b := b) (c := c) (Q := Q) m2 (k + 1) (s_evc a b c (F 7 k) st) (upd f st.length (F 7 k)) (some (.int (F 7 k))) (by omega) (by omega) hz H
                rw [e0, nI_succ k] at g
                have e3 : upd N 25 (nI (((F 7 k) :: st)).length) = (upd (upd N 25 (nI st.length)) 25 (nI ((F 7 k) :: st).length)) := by rw [zz_uu]
                have e2 : va_up F 25 (upd f st.length (F 7 k)) = (va_up (va_up F 25 f) 25 (upd f st.length (F 7 k))) := by rw [px_up_up]
                rw [e3, e2] at g
                exact g
theorem cv_val7 {Z N : Nat → Int32} {F : Nat → Nat → Int32} {n : Nat} (hn : N 7 = nI n) (hn60 : n ≤ 60) (a b c : Int32) : px_PM 3 22 [.ref 60, .ref 16, .int a, .int b, .int c] (px_CH Z N F, []) (fun r h' => r = some (.int ((s_evs (F 7) a b c n 0 []).headD 0)) ∧ ∃ (e : Nat) (g : Nat → Int32), e ≤ 60 ∧ h' = (px_CH Z (upd N 25 (nI e)) (va_up F 25 g), [])) := by
  refine px_PM.start (nL := 7) (code := pc_22) rfl rfl ?_
  refine px_PW.steps kt_22.2 2 rfl ?_
  refine px_PW.callV kt_22.2 rfl rfl rfl rfl (nb_clear (q := 25) (by decide)) (by decide) (fun v h1 q => ?_)
  obtain ⟨rfl, rfl⟩ := q
  refine px_PW.steps kt_22.2 2 rfl ?_
  refine px_PW.hp (h' := (px_CH Z (upd N 25 (nI ([] : List Int32).length)) (va_up F 25 (F 25)), [])) (by rw [px_up_id]; rfl) ?_
  refine c_val7_loop hn hn60 n 0 [] (F 25) none (by omega) (Nat.le_refl 0) trivial (fun g o6 hle hg => ?_)
  refine px_PW.steps kt_22.2 2 rfl ?_
  refine px_PW.callV kt_22.2 rfl rfl rfl rfl (nb_popS (N := upd N 25 (nI (s_evs (F 7) a b c n 0 []).length)) (q := 25) (l := s_evs (F 7) a b c n 0 []) (by decide) rfl hle hg) (by decide) (fun v h1 q => ?_)
  obtain ⟨rfl, rfl⟩ := q
  refine px_PW.ret kt_22.2 rfl rfl ?_
  exact ⟨rfl, (s_evs (F 7) a b c n 0 []).tail.length, g, by rw [List.length_tail]; omega, by rw [zz_uu]⟩
end
/-! part 37.charm -/
section
theorem px_nq {N : Nat → Int32} (hw : px_cw N) {q : Nat} (hq : q < 27) : N q = nI (N q).toNatClampNeg ∧ (N q).toNatClampNeg ≤ 60 := by
  have h := hw.2.2.2 q hq
  have hb := (px_lim_i hq).2
  obtain ⟨n, hn, e⟩ := nI_of (Int32.not_lt.mpr h.1)
  rw [e, nI_clamp hn]
  have h2 := h.2
  rw [e, nI_toInt hn] at h2
  exact ⟨rfl, by omega⟩
theorem px_sc25 {Z N : Nat → Int32} {F : Nat → Nat → Int32} {x : Int32} {g : Nat → Int32} (he : 0 ≤ x ∧ x.toInt ≤ 60) : px_sc Z N F Z (upd N 25 x) (va_up F 25 g) := by
  refine ⟨fun i hi => rfl, fun q hq => px_upd_ne N _ (by omega), fun q hq => px_up_ne F _ (by omega), fun h => ?_⟩
  refine ⟨h.1, h.2.1, h.2.2.1, fun q hq => ?_⟩
  by_cases c : q = 25
  · subst c
    rw [px_upd_self]
    exact he
  · rw [px_upd_ne N _ c]
    exact h.2.2.2 q hq
theorem px_cw25 {N : Nat → Int32} (hw : px_cw N) {x : Int32} (he : 0 ≤ x ∧ x.toInt ≤ 60) : px_cw (upd N 25 x) := (px_sc25 (Z := N) (F := fun _ => N) (g := N) he).2.2.2 hw
theorem px_e60 {e : Nat} (he : e ≤ 60) : 0 ≤ nI e ∧ (nI e).toInt ≤ 60 := ⟨nI_pos' (by omega), by rw [nI_toInt (by omega)]; omega⟩
def s_tx (N : Nat → Int32) (F : Nat → Nat → Int32) (q : Nat) (a b c : Int32) : Int32 := (s_evs (F q) a b c (N q).toNatClampNeg 0 []).headD 0
def s_ruled0 (N : Nat → Int32) (F : Nat → Nat → Int32) (a b c : Int32) : Int32 := (if (N 6) ≤ 0 then (i_max 0 (i_min 99 (a / 3))) else (i_max 0 (i_min 99 (s_tx N F 6 a b c))))
theorem cv_ruled0 {Z N : Nat → Int32} {F : Nat → Nat → Int32} (hw : px_cw N) (a b c : Int32) : px_PM 4 113 [.ref 0, .int 0, .int a, .int b, .int c] (px_CH Z N F, []) (fun r h' => r = some (.int (s_ruled0 N F a b c)) ∧ ∃ (x : Int32) (g : Nat → Int32), (0 ≤ x ∧ x.toInt ≤ 60) ∧ h' = (px_CH Z (upd N 25 x) (va_up F 25 g), [])) := by
  refine px_PM.start (nL := 8) (code := pc_113) rfl rfl ?_
  refine px_PW.steps kt_113.2 3 rfl ?_
  refine px_PW.callV kt_113.2 rfl rfl rfl rfl (cc_textOf0) (by decide) (fun v h1 q => ?_)
  obtain ⟨rfl, rfl⟩ := q
  refine px_PW.steps kt_113.2 2 rfl ?_
  refine px_PW.callV kt_113.2 rfl rfl rfl rfl (nb_size (q := 6) (by decide)) (by decide) (fun v h1 q => ?_)
  obtain ⟨rfl, rfl⟩ := q
  refine px_PW.steps kt_113.2 1 rfl ?_
  refine px_PW.br (fun c0 => ?_) (fun c0 => ?_)
  · have c0 : (N 6) ≤ 0 := of_decide_eq_true c0
    refine px_PW.steps kt_113.2 4 rfl ?_
    refine px_PW.br (fun c1 => ?_) (fun c1 => ?_)
    · have c1 : 0 = 0 := of_decide_eq_true c1
      refine px_PW.steps kt_113.2 5 rfl ?_
      refine px_PW.br (fun c2 => ?_) (fun c2 => ?_)
      · have c2 : ¬ ((0 : Int32) = 1) := of_decide_eq_false (px_nt c2)
        refine px_PW.steps kt_113.2 2 rfl ?_
        refine px_PW.br (fun c3 => ?_) (fun c3 => ?_)
        · have c3 : 0 = 0 := of_decide_eq_true c3
          refine px_PW.steps kt_113.2 5 rfl ?_
          refine px_PW.callS kt_113.2 rfl rfl rfl (cc_within _ _ _ _) (by decide) (fun v h1 q => ?_)
          obtain ⟨rfl, rfl⟩ := q
          refine px_PW.ret kt_113.2 rfl rfl ?_
          have E : s_ruled0 N F a b c = (i_max 0 (i_min 99 (a / 3))) := if_pos c0
          rw [E]
          exact ⟨rfl, N 25, F 25, ⟨hw.nn (q := 25) (by decide), hw.lim (q := 25) (by decide)⟩, by rw [zz_ui, px_up_id]⟩
        · have c3 : ¬ (0 = 0) := of_decide_eq_false c3
          exact absurd rfl c3
      · have c2 : (0 : Int32) = 1 := of_decide_eq_true (px_nf c2)
        exact absurd c2 (by decide)
    · have c1 : ¬ (0 = 0) := of_decide_eq_false c1
      exact absurd rfl c1
  · have c0 : ¬ ((N 6) ≤ 0) := of_decide_eq_false c0
    refine px_PW.steps kt_113.2 5 rfl ?_
    refine px_PW.br (fun c4 => ?_) (fun c4 => ?_)
    · have c4 : 1 = 0 := of_decide_eq_true c4
      exact absurd c4 (by decide)
    · have c4 : ¬ (1 = 0) := of_decide_eq_false c4
      refine px_PW.steps kt_113.2 6 rfl ?_
      refine px_PW.callV kt_113.2 rfl rfl rfl rfl (cv_val6 (px_nq hw (by decide)).1 (px_nq hw (q := 6) (by decide)).2 _ _ _) (by decide) (fun v h1 q => ?_)
      obtain ⟨rfl, e9, g9, he9, rfl⟩ := q
      refine px_PW.steps kt_113.2 5 rfl ?_
      refine px_PW.br (fun c5 => ?_) (fun c5 => ?_)
      · have c5 : ¬ ((0 : Int32) = 1) := of_decide_eq_false (px_nt c5)
        refine px_PW.steps kt_113.2 2 rfl ?_
        refine px_PW.br (fun c6 => ?_) (fun c6 => ?_)
        · have c6 : 1 = 0 := of_decide_eq_true c6
          exact absurd c6 (by decide)
        · have c6 : ¬ (1 = 0) := of_decide_eq_false c6
          refine px_PW.steps kt_113.2 4 rfl ?_
          refine px_PW.callS kt_113.2 rfl rfl rfl (cc_within _ _ _ _) (by decide) (fun v h1 q => ?_)
          obtain ⟨rfl, rfl⟩ := q
          refine px_PW.ret kt_113.2 rfl rfl ?_
          have E : s_ruled0 N F a b c = (i_max 0 (i_min 99 (s_tx N F 6 a b c))) := if_neg c0
          rw [E]
          exact ⟨rfl, nI e9, g9, px_e60 he9, rfl⟩
      · have c5 : (0 : Int32) = 1 := of_decide_eq_true (px_nf c5)
        exact absurd c5 (by decide)
def s_ruled1 (N : Nat → Int32) (F : Nat → Nat → Int32) (a b c : Int32) : Int32 := (if (N 7) ≤ 0 then (i_max (-99) (i_min 99 a)) else (i_max (-99) (i_min 99 (s_tx N F 7 a b c))))
theorem cv_ruled1 {Z N : Nat → Int32} {F : Nat → Nat → Int32} (hw : px_cw N) (a b c : Int32) : px_PM 4 113 [.ref 0, .int 1, .int a, .int b, .int c] (px_CH Z N F, []) (fun r h' => r = some (.int (s_ruled1 N F a b c)) ∧ ∃ (x : Int32) (g : Nat → Int32), (0 ≤ x ∧ x.toInt ≤ 60) ∧ h' = (px_CH Z (upd N 25 x) (va_up F 25 g), [])) := by
  refine px_PM.start (nL := 8) (code := pc_113) rfl rfl ?_
  refine px_PW.steps kt_113.2 3 rfl ?_
  refine px_PW.callV kt_113.2 rfl rfl rfl rfl (cc_textOf1) (by decide) (fun v h1 q => ?_)
  obtain ⟨rfl, rfl⟩ := q
  refine px_PW.steps kt_113.2 2 rfl ?_
  refine px_PW.callV kt_113.2 rfl rfl rfl rfl (nb_size (q := 7) (by decide)) (by decide) (fun v h1 q => ?_)
  obtain ⟨rfl, rfl⟩ := q
  refine px_PW.steps kt_113.2 1 rfl ?_
  refine px_PW.br (fun c0 => ?_) (fun c0 => ?_)
  · have c0 : (N 7) ≤ 0 := of_decide_eq_true c0
    refine px_PW.steps kt_113.2 4 rfl ?_
    refine px_PW.br (fun c1 => ?_) (fun c1 => ?_)
    · have c1 : 0 = 0 := of_decide_eq_true c1
      refine px_PW.steps kt_113.2 5 rfl ?_
      refine px_PW.br (fun c2 => ?_) (fun c2 => ?_)
      · have c2 : ¬ ((1 : Int32) = 1) := of_decide_eq_false (px_nt c2)
        exact absurd rfl c2
      · have c2 : (1 : Int32) = 1 := of_decide_eq_true (px_nf c2)
        refine px_PW.steps kt_113.2 3 rfl ?_
        refine px_PW.callS kt_113.2 rfl rfl rfl (cc_within _ _ _ _) (by decide) (fun v h1 q => ?_)
        obtain ⟨rfl, rfl⟩ := q
        refine px_PW.ret kt_113.2 rfl rfl ?_
        have E : s_ruled1 N F a b c = (i_max (-99) (i_min 99 a)) := if_pos c0
        rw [E]
        exact ⟨rfl, N 25, F 25, ⟨hw.nn (q := 25) (by decide), hw.lim (q := 25) (by decide)⟩, by rw [zz_ui, px_up_id]⟩
    · have c1 : ¬ (0 = 0) := of_decide_eq_false c1
      exact absurd rfl c1
  · have c0 : ¬ ((N 7) ≤ 0) := of_decide_eq_false c0
    refine px_PW.steps kt_113.2 5 rfl ?_
    refine px_PW.br (fun c3 => ?_) (fun c3 => ?_)
    · have c3 : 1 = 0 := of_decide_eq_true c3
      exact absurd c3 (by decide)
    · have c3 : ¬ (1 = 0) := of_decide_eq_false c3
      refine px_PW.steps kt_113.2 6 rfl ?_
      refine px_PW.callV kt_113.2 rfl rfl rfl rfl (cv_val7 (px_nq hw (by decide)).1 (px_nq hw (q := 7) (by decide)).2 _ _ _) (by decide) (fun v h1 q => ?_)
      obtain ⟨rfl, e9, g9, he9, rfl⟩ := q
      refine px_PW.steps kt_113.2 5 rfl ?_
      refine px_PW.br (fun c4 => ?_) (fun c4 => ?_)
      · have c4 : ¬ ((1 : Int32) = 1) := of_decide_eq_false (px_nt c4)
        exact absurd rfl c4
      · have c4 : (1 : Int32) = 1 := of_decide_eq_true (px_nf c4)
        refine px_PW.steps kt_113.2 3 rfl ?_
        refine px_PW.callS kt_113.2 rfl rfl rfl (cc_within _ _ _ _) (by decide) (fun v h1 q => ?_)
        obtain ⟨rfl, rfl⟩ := q
        refine px_PW.ret kt_113.2 rfl rfl ?_
        have E : s_ruled1 N F a b c = (i_max (-99) (i_min 99 (s_tx N F 7 a b c))) := if_neg c0
        rw [E]
        exact ⟨rfl, nI e9, g9, px_e60 he9, rfl⟩
def s_look (Z : Nat → Int32) (f t : Int32) : Nat → Int32 := (upd (upd (upd (upd Z 11 ((i_min ((Z 10) - 1) (w_beh Z ((t + (Z 9)) + 1))) - (i_min ((Z 10) - 1) (w_beh Z f)))) 13 ((1 + (i_min ((Z 10) - 1) (w_beh Z t))) - (w_enb Z f))) 14 (w_ofE Z (w_hid Z 0 f t) (w_hid Z ((Z 10) - 1) f t))) 12 (i_min (w_gb Z (1 + (i_min ((Z 10) - 1) (w_beh Z f))) f) (w_ge Z (w_enb Z t) t)))
theorem cv_look {Z N : Nat → Int32} {F : Nat → Nat → Int32} (f t : Int32) : px_PM 4 32 [.ref 54, .int f, .int t] (px_CH Z N F, []) (fun r h' => r = none ∧ h' = (px_CH (s_look Z f t) N F, [])) := by
  refine px_PM.start (nL := 5) (code := pc_32) rfl rfl ?_
  refine px_PW.steps kt_32.2 8 rfl ?_
  refine px_PW.callV kt_32.2 rfl rfl rfl rfl (rw_beh _) (by decide) (fun v h1 q => ?_)
  obtain ⟨rfl, rfl⟩ := q
  refine px_PW.steps kt_32.2 11 rfl ?_
  refine px_PW.callV kt_32.2 rfl rfl rfl rfl (rw_beh _) (by decide) (fun v h1 q => ?_)
  obtain ⟨rfl, rfl⟩ := q
  refine px_PW.steps kt_32.2 3 rfl ?_
  refine px_op_11 kt_32.2 rfl ?_
  refine px_PW.steps kt_32.2 5 rfl ?_
  refine px_PW.callV kt_32.2 rfl rfl rfl rfl (rw_beh _) (by decide) (fun v h1 q => ?_)
  obtain ⟨rfl, rfl⟩ := q
  refine px_PW.steps kt_32.2 4 rfl ?_
  refine px_PW.callV kt_32.2 rfl rfl rfl rfl (rw_enb _) (by decide) (fun v h1 q => ?_)
  obtain ⟨rfl, rfl⟩ := q
  refine px_PW.steps kt_32.2 1 rfl ?_
  refine px_op_13 kt_32.2 rfl ?_
  refine px_PW.steps kt_32.2 6 rfl ?_
  refine px_PW.callV kt_32.2 rfl rfl rfl rfl (rw_hid _ _ _) (by decide) (fun v h1 q => ?_)
  obtain ⟨rfl, rfl⟩ := q
  refine px_PW.steps kt_32.2 4 rfl ?_
  refine px_PW.callV kt_32.2 rfl rfl rfl rfl (rw_hid _ _ _) (by decide) (fun v h1 q => ?_)
  obtain ⟨rfl, rfl⟩ := q
  refine px_PW.callV kt_32.2 rfl rfl rfl rfl (rw_ofE _ _) (by decide) (fun v h1 q => ?_)
  obtain ⟨rfl, rfl⟩ := q
  refine px_op_14 kt_32.2 rfl ?_
  refine px_PW.steps kt_32.2 6 rfl ?_
  refine px_PW.callV kt_32.2 rfl rfl rfl rfl (rw_gb _ _) (by decide) (fun v h1 q => ?_)
  obtain ⟨rfl, rfl⟩ := q
  refine px_PW.steps kt_32.2 3 rfl ?_
  refine px_PW.callV kt_32.2 rfl rfl rfl rfl (rw_enb _) (by decide) (fun v h1 q => ?_)
  obtain ⟨rfl, rfl⟩ := q
  refine px_PW.steps kt_32.2 1 rfl ?_
  refine px_PW.callV kt_32.2 rfl rfl rfl rfl (rw_ge _ _) (by decide) (fun v h1 q => ?_)
  obtain ⟨rfl, rfl⟩ := q
  refine px_PW.steps kt_32.2 1 rfl ?_
  refine px_op_12 kt_32.2 rfl ?_
  refine px_PW.ret kt_32.2 rfl rfl ?_
  exact ⟨rfl, rfl⟩
def s_harms (jo ga to hi kind mark : Int32) : Int32 := (if jo ≤ 0 then (if 10 ≤ ga then (if kind = 1 then 1 else (if kind = 2 then (to - 1) else (if kind = 3 then (-hi) else (if kind = 4 then (2 * 1) else (if kind = 5 then (i_max 0 ((to - 1) - 1)) else (if kind = 6 then (mark - hi) else 1)))))) else (if kind = 1 then (1 * (mark + 1)) else (if kind = 2 then (to - 1) else (if kind = 3 then (-hi) else (if kind = 4 then (2 * (1 * (mark + 1))) else (if kind = 5 then (i_max 0 ((to - 1) - 1)) else (if kind = 6 then (mark - hi) else 1))))))) else (if 10 ≤ ga then (if kind = 1 then 0 else (if kind = 2 then (to - 0) else (if kind = 3 then (-hi) else (if kind = 4 then (2 * 0) else (if kind = 5 then (i_max 0 ((to - 0) - 1)) else (if kind = 6 then (mark - hi) else 0)))))) else (if kind = 1 then (0 * (mark + 1)) else (if kind = 2 then (to - 0) else (if kind = 3 then (-hi) else (if kind = 4 then (2 * (0 * (mark + 1))) else (if kind = 5 then (i_max 0 ((to - 0) - 1)) else (if kind = 6 then (mark - hi) else 0))))))))
theorem px_swd_112_42 {x : Int32} (c0 : ¬ (x = 1)) (c1 : ¬ (x = 2)) (c2 : ¬ (x = 3)) (c3 : ¬ (x = 4)) (c4 : ¬ (x = 5)) (c5 : ¬ (x = 6)) : px_sw 1 [80, 83, 86, 92, 97, 106] 113 x.toInt = 113 := by
  have d0 : ¬ (x.toInt = 1) := fun h => c0 (px_i_of h (by decide +kernel))
  have d1 : ¬ (x.toInt = 2) := fun h => c1 (px_i_of h (by decide +kernel))
  have d2 : ¬ (x.toInt = 3) := fun h => c2 (px_i_of h (by decide +kernel))
  have d3 : ¬ (x.toInt = 4) := fun h => c3 (px_i_of h (by decide +kernel))
  have d4 : ¬ (x.toInt = 5) := fun h => c4 (px_i_of h (by decide +kernel))
  have d5 : ¬ (x.toInt = 6) := fun h => c5 (px_i_of h (by decide +kernel))
  exact px_sw_d (fun y h1 h2 => by
    have h1 : (1 : Int) ≤ y := h1
    have h2 : y < 7 := h2
    rcases (show y = 1 ∨ y = 2 ∨ y = 3 ∨ y = 4 ∨ y = 5 ∨ y = 6 by omega) with rfl | rfl | rfl | rfl | rfl | rfl
    · exact Or.inl (fun h => d0 h)
    · exact Or.inl (fun h => d1 h)
    · exact Or.inl (fun h => d2 h)
    · exact Or.inl (fun h => d3 h)
    · exact Or.inl (fun h => d4 h)
    · exact Or.inl (fun h => d5 h))
theorem cv_harms {Z N : Nat → Int32} {F : Nat → Nat → Int32} (kind mark : Int32) : px_PM 1 112 [.int kind, .int mark, .ref 54] (px_CH Z N F, []) (fun r h' => r = some (.int (s_harms (Z 11) (Z 12) (Z 13) (Z 14) kind mark)) ∧ h' = (px_CH Z N F, [])) := by
  refine px_PM.start (nL := 6) (code := pc_112) rfl rfl ?_
  refine px_PW.steps kt_112.2 3 rfl ?_
  refine px_PW.br (fun c0 => ?_) (fun c0 => ?_)
  · have c0 : (Z 11) ≤ 0 := of_decide_eq_true c0
    refine px_PW.steps kt_112.2 6 rfl ?_
    refine px_PW.br (fun c1 => ?_) (fun c1 => ?_)
    · have c1 : 10 ≤ (Z 12) := of_decide_eq_true c1
      refine px_PW.steps kt_112.2 9 rfl ?_
      by_cases c2 : kind = 1
      · refine px_PW.at (pc' := 80) (show px_sw 1 [80, 83, 86, 92, 97, 106] 113 (kind : Int32).toInt = 80 by rw [c2]; rfl) ?_
        refine px_PW.steps kt_112.2 1 rfl ?_
        refine px_PW.ret kt_112.2 rfl rfl ?_
        exact ⟨congrArg (fun z => some (Value.int z)) (show s_harms (Z 11) (Z 12) (Z 13) (Z 14) kind mark = 1 from (if_pos c0).trans ((if_pos c1).trans (if_pos c2))).symm, rfl⟩
      · skip
        by_cases c3 : kind = 2
        · refine px_PW.at (pc' := 83) (show px_sw 1 [80, 83, 86, 92, 97, 106] 113 (kind : Int32).toInt = 83 by rw [c3]; rfl) ?_
          refine px_PW.steps kt_112.2 1 rfl ?_
          refine px_PW.ret kt_112.2 rfl rfl ?_
          exact ⟨congrArg (fun z => some (Value.int z)) (show s_harms (Z 11) (Z 12) (Z 13) (Z 14) kind mark = ((Z 13) - 1) from (if_pos c0).trans ((if_pos c1).trans ((if_neg c2).trans (if_pos c3)))).symm, rfl⟩
        · skip
          by_cases c4 : kind = 3
          · refine px_PW.at (pc' := 86) (show px_sw 1 [80, 83, 86, 92, 97, 106] 113 (kind : Int32).toInt = 86 by rw [c4]; rfl) ?_
            refine px_PW.steps kt_112.2 3 rfl ?_
            refine px_PW.ret kt_112.2 rfl rfl ?_
            exact ⟨congrArg (fun z => some (Value.int z)) (show s_harms (Z 11) (Z 12) (Z 13) (Z 14) kind mark = (-(Z 14)) from (if_pos c0).trans ((if_pos c1).trans ((if_neg c2).trans ((if_neg c3).trans (if_pos c4))))).symm, rfl⟩
          · skip
            by_cases c5 : kind = 4
            · refine px_PW.at (pc' := 92) (show px_sw 1 [80, 83, 86, 92, 97, 106] 113 (kind : Int32).toInt = 92 by rw [c5]; rfl) ?_
              refine px_PW.steps kt_112.2 3 rfl ?_
              refine px_PW.ret kt_112.2 rfl rfl ?_
              exact ⟨congrArg (fun z => some (Value.int z)) (show s_harms (Z 11) (Z 12) (Z 13) (Z 14) kind mark = (2 * 1) from (if_pos c0).trans ((if_pos c1).trans ((if_neg c2).trans ((if_neg c3).trans ((if_neg c4).trans (if_pos c5)))))).symm, rfl⟩
            · skip
              by_cases c6 : kind = 5
              · refine px_PW.at (pc' := 97) (show px_sw 1 [80, 83, 86, 92, 97, 106] 113 (kind : Int32).toInt = 97 by rw [c6]; rfl) ?_
                refine px_PW.steps kt_112.2 5 rfl ?_
                refine px_PW.ret kt_112.2 rfl rfl ?_
                exact ⟨congrArg (fun z => some (Value.int z)) (show s_harms (Z 11) (Z 12) (Z 13) (Z 14) kind mark = (i_max 0 (((Z 13) - 1) - 1)) from (if_pos c0).trans ((if_pos c1).trans ((if_neg c2).trans ((if_neg c3).trans ((if_neg c4).trans ((if_neg c5).trans (if_pos c6))))))).symm, rfl⟩
              · skip
                by_cases c7 : kind = 6
                · refine px_PW.at (pc' := 106) (show px_sw 1 [80, 83, 86, 92, 97, 106] 113 (kind : Int32).toInt = 106 by rw [c7]; rfl) ?_
                  refine px_PW.steps kt_112.2 4 rfl ?_
                  refine px_PW.ret kt_112.2 rfl rfl ?_
                  exact ⟨congrArg (fun z => some (Value.int z)) (show s_harms (Z 11) (Z 12) (Z 13) (Z 14) kind mark = (mark - (Z 14)) from (if_pos c0).trans ((if_pos c1).trans ((if_neg c2).trans ((if_neg c3).trans ((if_neg c4).trans ((if_neg c5).trans ((if_neg c6).trans (if_pos c7)))))))).symm, rfl⟩
                · skip
                  refine px_PW.at (px_swd_112_42 c2 c3 c4 c5 c6 c7) ?_
                  refine px_PW.steps kt_112.2 1 rfl ?_
                  refine px_PW.ret kt_112.2 rfl rfl ?_
                  exact ⟨congrArg (fun z => some (Value.int z)) (show s_harms (Z 11) (Z 12) (Z 13) (Z 14) kind mark = 1 from (if_pos c0).trans ((if_pos c1).trans ((if_neg c2).trans ((if_neg c3).trans ((if_neg c4).trans ((if_neg c5).trans ((if_neg c6).trans (if_neg c7)))))))).symm, rfl⟩
    · have c1 : ¬ (10 ≤ (Z 12)) := of_decide_eq_false c1
      refine px_PW.steps kt_112.2 14 rfl ?_
      by_cases c8 : kind = 1
      · refine px_PW.at (pc' := 80) (show px_sw 1 [80, 83, 86, 92, 97, 106] 113 (kind : Int32).toInt = 80 by rw [c8]; rfl) ?_
        refine px_PW.steps kt_112.2 1 rfl ?_
        refine px_PW.ret kt_112.2 rfl rfl ?_
        exact ⟨congrArg (fun z => some (Value.int z)) (show s_harms (Z 11) (Z 12) (Z 13) (Z 14) kind mark = (1 * (mark + 1)) from (if_pos c0).trans ((if_neg c1).trans (if_pos c8))).symm, rfl⟩
      · skip
        by_cases c9 : kind = 2
        · refine px_PW.at (pc' := 83) (show px_sw 1 [80, 83, 86, 92, 97, 106] 113 (kind : Int32).toInt = 83 by rw [c9]; rfl) ?_
          refine px_PW.steps kt_112.2 1 rfl ?_
          refine px_PW.ret kt_112.2 rfl rfl ?_
          exact ⟨congrArg (fun z => some (Value.int z)) (show s_harms (Z 11) (Z 12) (Z 13) (Z 14) kind mark = ((Z 13) - 1) from (if_pos c0).trans ((if_neg c1).trans ((if_neg c8).trans (if_pos c9)))).symm, rfl⟩
        · skip
          by_cases c10 : kind = 3
          · refine px_PW.at (pc' := 86) (show px_sw 1 [80, 83, 86, 92, 97, 106] 113 (kind : Int32).toInt = 86 by rw [c10]; rfl) ?_
            refine px_PW.steps kt_112.2 3 rfl ?_
            refine px_PW.ret kt_112.2 rfl rfl ?_
            exact ⟨congrArg (fun z => some (Value.int z)) (show s_harms (Z 11) (Z 12) (Z 13) (Z 14) kind mark = (-(Z 14)) from (if_pos c0).trans ((if_neg c1).trans ((if_neg c8).trans ((if_neg c9).trans (if_pos c10))))).symm, rfl⟩
          · skip
            by_cases c11 : kind = 4
            · refine px_PW.at (pc' := 92) (show px_sw 1 [80, 83, 86, 92, 97, 106] 113 (kind : Int32).toInt = 92 by rw [c11]; rfl) ?_
              refine px_PW.steps kt_112.2 3 rfl ?_
              refine px_PW.ret kt_112.2 rfl rfl ?_
              exact ⟨congrArg (fun z => some (Value.int z)) (show s_harms (Z 11) (Z 12) (Z 13) (Z 14) kind mark = (2 * (1 * (mark + 1))) from (if_pos c0).trans ((if_neg c1).trans ((if_neg c8).trans ((if_neg c9).trans ((if_neg c10).trans (if_pos c11)))))).symm, rfl⟩
            · skip
              by_cases c12 : kind = 5
              · refine px_PW.at (pc' := 97) (show px_sw 1 [80, 83, 86, 92, 97, 106] 113 (kind : Int32).toInt = 97 by rw [c12]; rfl) ?_
                refine px_PW.steps kt_112.2 5 rfl ?_
                refine px_PW.ret kt_112.2 rfl rfl ?_
                exact ⟨congrArg (fun z => some (Value.int z)) (show s_harms (Z 11) (Z 12) (Z 13) (Z 14) kind mark = (i_max 0 (((Z 13) - 1) - 1)) from (if_pos c0).trans ((if_neg c1).trans ((if_neg c8).trans ((if_neg c9).trans ((if_neg c10).trans ((if_neg c11).trans (if_pos c12))))))).symm, rfl⟩
              · skip
                by_cases c13 : kind = 6
                · refine px_PW.at (pc' := 106) (show px_sw 1 [80, 83, 86, 92, 97, 106] 113 (kind : Int32).toInt = 106 by rw [c13]; rfl) ?_
                  refine px_PW.steps kt_112.2 4 rfl ?_
                  refine px_PW.ret kt_112.2 rfl rfl ?_
                  exact ⟨congrArg (fun z => some (Value.int z)) (show s_harms (Z 11) (Z 12) (Z 13) (Z 14) kind mark = (mark - (Z 14)) from (if_pos c0).trans ((if_neg c1).trans ((if_neg c8).trans ((if_neg c9).trans ((if_neg c10).trans ((if_neg c11).trans ((if_neg c12).trans (if_pos c13)))))))).symm, rfl⟩
                · skip
                  refine px_PW.at (px_swd_112_42 c8 c9 c10 c11 c12 c13) ?_
                  refine px_PW.steps kt_112.2 1 rfl ?_
                  refine px_PW.ret kt_112.2 rfl rfl ?_
                  exact ⟨congrArg (fun z => some (Value.int z)) (show s_harms (Z 11) (Z 12) (Z 13) (Z 14) kind mark = 1 from (if_pos c0).trans ((if_neg c1).trans ((if_neg c8).trans ((if_neg c9).trans ((if_neg c10).trans ((if_neg c11).trans ((if_neg c12).trans (if_neg c13)))))))).symm, rfl⟩
  · have c0 : ¬ ((Z 11) ≤ 0) := of_decide_eq_false c0
    refine px_PW.steps kt_112.2 7 rfl ?_
    refine px_PW.br (fun c14 => ?_) (fun c14 => ?_)
    · have c14 : 10 ≤ (Z 12) := of_decide_eq_true c14
      refine px_PW.steps kt_112.2 9 rfl ?_
      by_cases c15 : kind = 1
      · refine px_PW.at (pc' := 80) (show px_sw 1 [80, 83, 86, 92, 97, 106] 113 (kind : Int32).toInt = 80 by rw [c15]; rfl) ?_
        refine px_PW.steps kt_112.2 1 rfl ?_
        refine px_PW.ret kt_112.2 rfl rfl ?_
        exact ⟨congrArg (fun z => some (Value.int z)) (show s_harms (Z 11) (Z 12) (Z 13) (Z 14) kind mark = 0 from (if_neg c0).trans ((if_pos c14).trans (if_pos c15))).symm, rfl⟩
      · skip
        by_cases c16 : kind = 2
        · refine px_PW.at (pc' := 83) (show px_sw 1 [80, 83, 86, 92, 97, 106] 113 (kind : Int32).toInt = 83 by rw [c16]; rfl) ?_
          refine px_PW.steps kt_112.2 1 rfl ?_
          refine px_PW.ret kt_112.2 rfl rfl ?_
          exact ⟨congrArg (fun z => some (Value.int z)) (show s_harms (Z 11) (Z 12) (Z 13) (Z 14) kind mark = ((Z 13) - 0) from (if_neg c0).trans ((if_pos c14).trans ((if_neg c15).trans (if_pos c16)))).symm, rfl⟩
        · skip
          by_cases c17 : kind = 3
          · refine px_PW.at (pc' := 86) (show px_sw 1 [80, 83, 86, 92, 97, 106] 113 (kind : Int32).toInt = 86 by rw [c17]; rfl) ?_
            refine px_PW.steps kt_112.2 3 rfl ?_
            refine px_PW.ret kt_112.2 rfl rfl ?_
            exact ⟨congrArg (fun z => some (Value.int z)) (show s_harms (Z 11) (Z 12) (Z 13) (Z 14) kind mark = (-(Z 14)) from (if_neg c0).trans ((if_pos c14).trans ((if_neg c15).trans ((if_neg c16).trans (if_pos c17))))).symm, rfl⟩
          · skip
            by_cases c18 : kind = 4
            · refine px_PW.at (pc' := 92) (show px_sw 1 [80, 83, 86, 92, 97, 106] 113 (kind : Int32).toInt = 92 by rw [c18]; rfl) ?_
              refine px_PW.steps kt_112.2 3 rfl ?_
              refine px_PW.ret kt_112.2 rfl rfl ?_
              exact ⟨congrArg (fun z => some (Value.int z)) (show s_harms (Z 11) (Z 12) (Z 13) (Z 14) kind mark = (2 * 0) from (if_neg c0).trans ((if_pos c14).trans ((if_neg c15).trans ((if_neg c16).trans ((if_neg c17).trans (if_pos c18)))))).symm, rfl⟩
            · skip
              by_cases c19 : kind = 5
              · refine px_PW.at (pc' := 97) (show px_sw 1 [80, 83, 86, 92, 97, 106] 113 (kind : Int32).toInt = 97 by rw [c19]; rfl) ?_
                refine px_PW.steps kt_112.2 5 rfl ?_
                refine px_PW.ret kt_112.2 rfl rfl ?_
                exact ⟨congrArg (fun z => some (Value.int z)) (show s_harms (Z 11) (Z 12) (Z 13) (Z 14) kind mark = (i_max 0 (((Z 13) - 0) - 1)) from (if_neg c0).trans ((if_pos c14).trans ((if_neg c15).trans ((if_neg c16).trans ((if_neg c17).trans ((if_neg c18).trans (if_pos c19))))))).symm, rfl⟩
              · skip
                by_cases c20 : kind = 6
                · refine px_PW.at (pc' := 106) (show px_sw 1 [80, 83, 86, 92, 97, 106] 113 (kind : Int32).toInt = 106 by rw [c20]; rfl) ?_
                  refine px_PW.steps kt_112.2 4 rfl ?_
                  refine px_PW.ret kt_112.2 rfl rfl ?_
                  exact ⟨congrArg (fun z => some (Value.int z)) (show s_harms (Z 11) (Z 12) (Z 13) (Z 14) kind mark = (mark - (Z 14)) from (if_neg c0).trans ((if_pos c14).trans ((if_neg c15).trans ((if_neg c16).trans ((if_neg c17).trans ((if_neg c18).trans ((if_neg c19).trans (if_pos c20)))))))).symm, rfl⟩
                · skip
                  refine px_PW.at (px_swd_112_42 c15 c16 c17 c18 c19 c20) ?_
                  refine px_PW.steps kt_112.2 1 rfl ?_
                  refine px_PW.ret kt_112.2 rfl rfl ?_
                  exact ⟨congrArg (fun z => some (Value.int z)) (show s_harms (Z 11) (Z 12) (Z 13) (Z 14) kind mark = 0 from (if_neg c0).trans ((if_pos c14).trans ((if_neg c15).trans ((if_neg c16).trans ((if_neg c17).trans ((if_neg c18).trans ((if_neg c19).trans (if_neg c20)))))))).symm, rfl⟩
    · have c14 : ¬ (10 ≤ (Z 12)) := of_decide_eq_false c14
      refine px_PW.steps kt_112.2 14 rfl ?_
      by_cases c21 : kind = 1
      · refine px_PW.at (pc' := 80) (show px_sw 1 [80, 83, 86, 92, 97, 106] 113 (kind : Int32).toInt = 80 by rw [c21]; rfl) ?_
        refine px_PW.steps kt_112.2 1 rfl ?_
        refine px_PW.ret kt_112.2 rfl rfl ?_
        exact ⟨congrArg (fun z => some (Value.int z)) (show s_harms (Z 11) (Z 12) (Z 13) (Z 14) kind mark = (0 * (mark + 1)) from (if_neg c0).trans ((if_neg c14).trans (if_pos c21))).symm, rfl⟩
      · skip
        by_cases c22 : kind = 2
        · refine px_PW.at (pc' := 83) (show px_sw 1 [80, 83, 86, 92, 97, 106] 113 (kind : Int32).toInt = 83 by rw [c22]; rfl) ?_
          refine px_PW.steps kt_112.2 1 rfl ?_
          refine px_PW.ret kt_112.2 rfl rfl ?_
          exact ⟨congrArg (fun z => some (Value.int z)) (show s_harms (Z 11) (Z 12) (Z 13) (Z 14) kind mark = ((Z 13) - 0) from (if_neg c0).trans ((if_neg c14).trans ((if_neg c21).trans (if_pos c22)))).symm, rfl⟩
        · skip
          by_cases c23 : kind = 3
          · refine px_PW.at (pc' := 86) (show px_sw 1 [80, 83, 86, 92, 97, 106] 113 (kind : Int32).toInt = 86 by rw [c23]; rfl) ?_
            refine px_PW.steps kt_112.2 3 rfl ?_
            refine px_PW.ret kt_112.2 rfl rfl ?_
            exact ⟨congrArg (fun z => some (Value.int z)) (show s_harms (Z 11) (Z 12) (Z 13) (Z 14) kind mark = (-(Z 14)) from (if_neg c0).trans ((if_neg c14).trans ((if_neg c21).trans ((if_neg c22).trans (if_pos c23))))).symm, rfl⟩
          · skip
            by_cases c24 : kind = 4
            · refine px_PW.at (pc' := 92) (show px_sw 1 [80, 83, 86, 92, 97, 106] 113 (kind : Int32).toInt = 92 by rw [c24]; rfl) ?_
              refine px_PW.steps kt_112.2 3 rfl ?_
              refine px_PW.ret kt_112.2 rfl rfl ?_
              exact ⟨congrArg (fun z => some (Value.int z)) (show s_harms (Z 11) (Z 12) (Z 13) (Z 14) kind mark = (2 * (0 * (mark + 1))) from (if_neg c0).trans ((if_neg c14).trans ((if_neg c21).trans ((if_neg c22).trans ((if_neg c23).trans (if_pos c24)))))).symm, rfl⟩
            · skip
              by_cases c25 : kind = 5
              · refine px_PW.at (pc' := 97) (show px_sw 1 [80, 83, 86, 92, 97, 106] 113 (kind : Int32).toInt = 97 by rw [c25]; rfl) ?_
                refine px_PW.steps kt_112.2 5 rfl ?_
                refine px_PW.ret kt_112.2 rfl rfl ?_
                exact ⟨congrArg (fun z => some (Value.int z)) (show s_harms (Z 11) (Z 12) (Z 13) (Z 14) kind mark = (i_max 0 (((Z 13) - 0) - 1)) from (if_neg c0).trans ((if_neg c14).trans ((if_neg c21).trans ((if_neg c22).trans ((if_neg c23).trans ((if_neg c24).trans (if_pos c25))))))).symm, rfl⟩
              · skip
                by_cases c26 : kind = 6
                · refine px_PW.at (pc' := 106) (show px_sw 1 [80, 83, 86, 92, 97, 106] 113 (kind : Int32).toInt = 106 by rw [c26]; rfl) ?_
                  refine px_PW.steps kt_112.2 4 rfl ?_
                  refine px_PW.ret kt_112.2 rfl rfl ?_
                  exact ⟨congrArg (fun z => some (Value.int z)) (show s_harms (Z 11) (Z 12) (Z 13) (Z 14) kind mark = (mark - (Z 14)) from (if_neg c0).trans ((if_neg c14).trans ((if_neg c21).trans ((if_neg c22).trans ((if_neg c23).trans ((if_neg c24).trans ((if_neg c25).trans (if_pos c26)))))))).symm, rfl⟩
                · skip
                  refine px_PW.at (px_swd_112_42 c21 c22 c23 c24 c25 c26) ?_
                  refine px_PW.steps kt_112.2 1 rfl ?_
                  refine px_PW.ret kt_112.2 rfl rfl ?_
                  exact ⟨congrArg (fun z => some (Value.int z)) (show s_harms (Z 11) (Z 12) (Z 13) (Z 14) kind mark = 0 from (if_neg c0).trans ((if_neg c14).trans ((if_neg c21).trans ((if_neg c22).trans ((if_neg c23).trans ((if_neg c24).trans ((if_neg c25).trans (if_neg c26)))))))).symm, rfl⟩
def s_hv (Z N : Nat → Int32) (F : Nat → Nat → Int32) (t : Int32) : Int32 := (s_ruled1 N F (s_harms ((s_look Z ((F 3) t.toNatClampNeg) (((F 3) t.toNatClampNeg) + ((F 4) t.toNatClampNeg))) 11) ((s_look Z ((F 3) t.toNatClampNeg) (((F 3) t.toNatClampNeg) + ((F 4) t.toNatClampNeg))) 12) ((s_look Z ((F 3) t.toNatClampNeg) (((F 3) t.toNatClampNeg) + ((F 4) t.toNatClampNeg))) 13) ((s_look Z ((F 3) t.toNatClampNeg) (((F 3) t.toNatClampNeg) + ((F 4) t.toNatClampNeg))) 14) ((F 1) t.toNatClampNeg) ((F 2) t.toNatClampNeg)) t ((F 1) t.toNatClampNeg))
theorem cv_harmOf {Z N : Nat → Int32} {F : Nat → Nat → Int32} (hw : px_cw N) (hT : N 2 = N 1 ∧ N 3 = N 1 ∧ N 4 = N 1) {t : Int32} (ht : ¬ (t < 0 ∨ N 1 ≤ t)) : px_PM 5 111 [.ref 0, .int t] (px_CH Z N F, []) (fun r h' => r = some (.int (s_hv Z N F t)) ∧ ∃ (x : Int32) (g : Nat → Int32), (0 ≤ x ∧ x.toInt ≤ 60) ∧ h' = (px_CH (s_look Z ((F 3) t.toNatClampNeg) (((F 3) t.toNatClampNeg) + ((F 4) t.toNatClampNeg))) (upd N 25 x) (va_up F 25 g), [])) := by
  refine px_PM.start (nL := 4) (code := pc_111) rfl rfl ?_
  refine px_PW.steps kt_111.2 4 rfl ?_
  refine px_PW.callV kt_111.2 rfl rfl rfl rfl (nb_getT (q := 3) (by decide) (hw.lim (by decide)) hT.2.1 ht) (by decide) (fun v h1 q => ?_)
  obtain ⟨rfl, rfl⟩ := q
  refine px_PW.steps kt_111.2 9 rfl ?_
  refine px_PW.callV kt_111.2 rfl rfl rfl rfl (nb_getT (q := 4) (by decide) (hw.lim (by decide)) hT.2.2 ht) (by decide) (fun v h1 q => ?_)
  obtain ⟨rfl, rfl⟩ := q
  refine px_PW.steps kt_111.2 1 rfl ?_
  refine px_PW.callV kt_111.2 rfl rfl rfl rfl (cv_look _ _) (by decide) (fun v h1 q => ?_)
  obtain ⟨rfl, rfl⟩ := q
  refine px_PW.steps kt_111.2 4 rfl ?_
  refine px_PW.callV kt_111.2 rfl rfl rfl rfl (nb_getT (q := 1) (by decide) (hw.lim (by decide)) rfl ht) (by decide) (fun v h1 q => ?_)
  obtain ⟨rfl, rfl⟩ := q
  refine px_PW.steps kt_111.2 8 rfl ?_
  refine px_PW.callV kt_111.2 rfl rfl rfl rfl (nb_getT (q := 2) (by decide) (hw.lim (by decide)) hT.1 ht) (by decide) (fun v h1 q => ?_)
  obtain ⟨rfl, rfl⟩ := q
  refine px_PW.steps kt_111.2 2 rfl ?_
  refine px_PW.callS kt_111.2 rfl rfl rfl (cv_harms _ _) (by decide) (fun v h1 q => ?_)
  obtain ⟨rfl, rfl⟩ := q
  refine px_PW.steps kt_111.2 2 rfl ?_
  refine px_PW.callV kt_111.2 rfl rfl rfl rfl (cv_ruled1 hw _ _ _) (by decide) (fun v h1 q => ?_)
  obtain ⟨rfl, x9, g9, hx9, rfl⟩ := q
  refine px_PW.ret kt_111.2 rfl rfl ?_
  exact ⟨rfl, x9, g9, hx9, rfl⟩
def s_jo (Z : Nat → Int32) (f t : Int32) : Int32 := i_min (Z 10 - 1) (w_beh Z (t + Z 9 + 1)) - i_min (Z 10 - 1) (w_beh Z f)
def s_to (Z : Nat → Int32) (f t : Int32) : Int32 := 1 + i_min (Z 10 - 1) (w_beh Z t) - w_enb Z f
def s_hi (Z : Nat → Int32) (f t : Int32) : Int32 := w_ofE Z (w_hid Z 0 f t) (w_hid Z (Z 10 - 1) f t)
def s_ga (Z : Nat → Int32) (f t : Int32) : Int32 := i_min (w_gb Z (1 + i_min (Z 10 - 1) (w_beh Z f)) f) (w_ge Z (w_enb Z t) t)
theorem s_hv_eq (Z N : Nat → Int32) (F : Nat → Nat → Int32) (t : Int32) : s_hv Z N F t = s_ruled1 N F (s_harms (s_jo Z (F 3 t.toNatClampNeg) (F 3 t.toNatClampNeg + F 4 t.toNatClampNeg)) (s_ga Z (F 3 t.toNatClampNeg) (F 3 t.toNatClampNeg + F 4 t.toNatClampNeg)) (s_to Z (F 3 t.toNatClampNeg) (F 3 t.toNatClampNeg + F 4 t.toNatClampNeg)) (s_hi Z (F 3 t.toNatClampNeg) (F 3 t.toNatClampNeg + F 4 t.toNatClampNeg)) (F 1 t.toNatClampNeg) (F 2 t.toNatClampNeg)) t (F 1 t.toNatClampNeg) := rfl
theorem s_look_same (Z : Nat → Int32) (f t : Int32) : px_same Z (s_look Z f t) := by
  intro i hi
  unfold s_look upd
  rw [if_neg (by omega), if_neg (by omega), if_neg (by omega), if_neg (by omega)]
theorem s_look_lay (Z : Nat → Int32) (f t : Int32) (i : Nat) (hi : 6 ≤ i) (hi2 : i ≤ 10) : s_look Z f t i = Z i := by
  unfold s_look upd
  rw [if_neg (by omega), if_neg (by omega), if_neg (by omega), if_neg (by omega)]
theorem s_hv_congr {Z Z' N : Nat → Int32} {F : Nat → Nat → Int32} (h : ∀ i : Nat, 6 ≤ i → i ≤ 10 → Z i = Z' i) (t : Int32) : s_hv Z N F t = s_hv Z' N F t := by
  have h6 := h 6 (by decide) (by decide)
  have h7 := h 7 (by decide) (by decide)
  have h8 := h 8 (by decide) (by decide)
  have h9 := h 9 (by decide) (by decide)
  have h10 := h 10 (by decide) (by decide)
  have beg : ∀ i, w_beg Z i = w_beg Z' i := fun i => by unfold w_beg; rw [h6, h8, h9]
  have en : ∀ i, w_end Z i = w_end Z' i := fun i => by unfold w_end; rw [h6, h7, h8, h9]
  have wid : ∀ i, w_wid Z i = w_wid Z' i := fun i => by unfold w_wid; rw [beg, en]
  have cut : ∀ i, w_cut Z i = w_cut Z' i := fun i => by unfold w_cut; rw [h8]
  have beh : ∀ i, w_beh Z i = w_beh Z' i := fun i => by unfold w_beh; rw [h6, h8, h9]
  have enb : ∀ i, w_enb Z i = w_enb Z' i := fun i => by unfold w_enb; rw [h6, h7, h8, h9, h10]
  have ofE : ∀ a b, w_ofE Z a b = w_ofE Z' a b := fun a b => by unfold w_ofE; rw [h10]
  have hid : ∀ i f t, w_hid Z i f t = w_hid Z' i f t := fun i f t => by unfold w_hid; rw [wid, cut, beg, en]
  have gb : ∀ n x, w_gb Z n x = w_gb Z' n x := fun n x => by unfold w_gb; rw [h10, beg, beg]
  have ge : ∀ n x, w_ge Z n x = w_ge Z' n x := fun n x => by unfold w_ge; rw [h10, en, en]
  have jo : ∀ f t, s_jo Z f t = s_jo Z' f t := fun f t => by unfold s_jo; rw [h10, h9, beh, beh]
  have to_ : ∀ f t, s_to Z f t = s_to Z' f t := fun f t => by unfold s_to; rw [h10, beh, enb]
  have hi_ : ∀ f t, s_hi Z f t = s_hi Z' f t := fun f t => by unfold s_hi; rw [h10, hid, hid, ofE]
  have ga : ∀ f t, s_ga Z f t = s_ga Z' f t := fun f t => by unfold s_ga; rw [h10, beh, enb, gb, ge]
  rw [s_hv_eq, s_hv_eq, jo, to_, hi_, ga]
def s_seen (Z N : Nat → Int32) (F : Nat → Nat → Int32) (thing : Int32) (row : Int32) (what : Int32) : Int32 := (if thing < 0 ∨ (N 1) ≤ thing then (-1000000000 - 1) else (if row < 0 ∨ ((F 0) 4) ≤ row then (-1000000000 - 1) else (if what = 0 then ((s_look (c_lay Z F row ((F 0) 6)) (F 3 thing.toNatClampNeg) (F 3 thing.toNatClampNeg + F 4 thing.toNatClampNeg)) 11) else (if what = 1 then ((s_look (c_lay Z F row ((F 0) 6)) (F 3 thing.toNatClampNeg) (F 3 thing.toNatClampNeg + F 4 thing.toNatClampNeg)) 12) else (if what = 2 then ((s_look (c_lay Z F row ((F 0) 6)) (F 3 thing.toNatClampNeg) (F 3 thing.toNatClampNeg + F 4 thing.toNatClampNeg)) 13) else (if what = 3 then ((s_look (c_lay Z F row ((F 0) 6)) (F 3 thing.toNatClampNeg) (F 3 thing.toNatClampNeg + F 4 thing.toNatClampNeg)) 14) else (if what = 4 then (s_hv (c_lay Z F row ((F 0) 6)) N F thing) else (-1000000000 - 1))))))))
theorem px_swd_63_41 {x : Int32} (c0 : ¬ (x = 0)) (c1 : ¬ (x = 1)) (c2 : ¬ (x = 2)) (c3 : ¬ (x = 3)) (c4 : ¬ (x = 4)) : px_sw 0 [76, 84, 92, 100, 108] 111 x.toInt = 111 := by
  have d0 : ¬ (x.toInt = 0) := fun h => c0 (px_i_of h (by decide +kernel))
  have d1 : ¬ (x.toInt = 1) := fun h => c1 (px_i_of h (by decide +kernel))
  have d2 : ¬ (x.toInt = 2) := fun h => c2 (px_i_of h (by decide +kernel))
  have d3 : ¬ (x.toInt = 3) := fun h => c3 (px_i_of h (by decide +kernel))
  have d4 : ¬ (x.toInt = 4) := fun h => c4 (px_i_of h (by decide +kernel))
  exact px_sw_d (fun y h1 h2 => by
    have h1 : (0 : Int) ≤ y := h1
    have h2 : y < 5 := h2
    rcases (show y = 0 ∨ y = 1 ∨ y = 2 ∨ y = 3 ∨ y = 4 by omega) with rfl | rfl | rfl | rfl | rfl
    · exact Or.inl (fun h => d0 h)
    · exact Or.inl (fun h => d1 h)
    · exact Or.inl (fun h => d2 h)
    · exact Or.inl (fun h => d3 h)
    · exact Or.inl (fun h => d4 h))
theorem kc_seen {Z N : Nat → Int32} {F : Nat → Nat → Int32} (hw : px_cw N) (hT : N 2 = N 1 ∧ N 3 = N 1 ∧ N 4 = N 1) (thing : Int32) (row : Int32) (what : Int32) : px_PM 6 63 [.ref 0, .int thing, .int row, .int what] (px_CH Z N F, []) (fun r h' => r = some (.int (s_seen Z N F thing row what)) ∧ ∃ Z' N' F', px_sc Z N F Z' N' F' ∧ h' = (px_CH Z' N' F', [])) := by
  refine px_PM.start (nL := 5) (code := pc_63) rfl rfl ?_
  refine px_PW.steps kt_63.2 2 rfl ?_
  refine px_PW.callV kt_63.2 rfl rfl rfl rfl (cc_isThing _) (by decide) (fun v h1 q => ?_)
  obtain ⟨rfl, rfl⟩ := q
  refine px_PW.steps kt_63.2 1 rfl ?_
  refine px_PW.br (fun c0 => ?_) (fun c0 => ?_)
  · have c0 : thing < 0 ∨ (N 1) ≤ thing := px_b0z (of_decide_eq_true c0)
    refine px_PW.steps kt_63.2 2 rfl ?_
    refine px_PW.callV kt_63.2 rfl rfl rfl rfl (cc_error (N := N) hw.2.2.1 1 (by decide)) (by decide) (fun v h1 q => ?_)
    obtain ⟨rfl, rfl⟩ := q
    refine px_PW.ret kt_63.2 rfl rfl ?_
    have E : s_seen Z N F thing row what = (-1000000000 - 1) := if_pos c0
    rw [E]
    exact ⟨rfl, _, _, _, px_sc.err, rfl⟩
  · have c0 : ¬ (thing < 0 ∨ (N 1) ≤ thing) := px_b0n (of_decide_eq_false c0)
    refine px_PW.steps kt_63.2 2 rfl ?_
    refine px_PW.callV kt_63.2 rfl rfl rfl rfl (cc_isRow hw.1 _) (by decide) (fun v h1 q => ?_)
    obtain ⟨rfl, rfl⟩ := q
    refine px_PW.steps kt_63.2 1 rfl ?_
    refine px_PW.br (fun c1 => ?_) (fun c1 => ?_)
    · have c1 : ¬ (row < 0 ∨ ((F 0) 4) ≤ row) := px_b0n (of_decide_eq_false (px_nt c1))
      refine px_PW.steps kt_63.2 4 rfl ?_
      refine px_PW.callV kt_63.2 rfl rfl rfl rfl (cc_is (N := N) hw.1 6 (by decide)) (by decide) (fun v h1 q => ?_)
      obtain ⟨rfl, rfl⟩ := q
      refine px_PW.callV kt_63.2 rfl rfl rfl rfl (rr_lay (N := N) hw.1 _ _) (by decide) (fun v h1 q => ?_)
      obtain ⟨rfl, rfl⟩ := q
      refine px_PW.steps kt_63.2 2 rfl ?_
      refine px_PW.callV kt_63.2 rfl rfl rfl rfl (cv_harmOf hw hT c0) (by decide) (fun v h1 q => ?_)
      obtain ⟨rfl, x9, g9, hx9, rfl⟩ := q
      refine px_PW.steps kt_63.2 3 rfl ?_
      by_cases c2 : what = 0
      · refine px_PW.at (pc' := 76) (show px_sw 0 [76, 84, 92, 100, 108] 111 (what : Int32).toInt = 76 by rw [c2]; rfl) ?_
        refine px_PW.steps kt_63.2 3 rfl ?_
        refine px_PW.ret kt_63.2 rfl rfl ?_
        have E : s_seen Z N F thing row what = ((s_look (c_lay Z F row ((F 0) 6)) (F 3 thing.toNatClampNeg) (F 3 thing.toNatClampNeg + F 4 thing.toNatClampNeg)) 11) := (if_neg c0).trans ((if_neg c1).trans (if_pos c2))
        rw [E]
        exact ⟨rfl, _, _, _, ((px_sc.z (c_lay_same _ _ _ _)).tr (px_sc.z (s_look_same _ _ _))).tr (px_sc25 hx9), rfl⟩
      · skip
        by_cases c3 : what = 1
        · refine px_PW.at (pc' := 84) (show px_sw 0 [76, 84, 92, 100, 108] 111 (what : Int32).toInt = 84 by rw [c3]; rfl) ?_
          refine px_PW.steps kt_63.2 3 rfl ?_
          refine px_PW.ret kt_63.2 rfl rfl ?_
          have E : s_seen Z N F thing row what = ((s_look (c_lay Z F row ((F 0) 6)) (F 3 thing.toNatClampNeg) (F 3 thing.toNatClampNeg + F 4 thing.toNatClampNeg)) 12) := (if_neg c0).trans ((if_neg c1).trans ((if_neg c2).trans (if_pos c3)))
          rw [E]
          exact ⟨rfl, _, _, _, ((px_sc.z (c_lay_same _ _ _ _)).tr (px_sc.z (s_look_same _ _ _))).tr (px_sc25 hx9), rfl⟩
        · skip
          by_cases c4 : what = 2
          · refine px_PW.at (pc' := 92) (show px_sw 0 [76, 84, 92, 100, 108] 111 (what : Int32).toInt = 92 by rw [c4]; rfl) ?_
            refine px_PW.steps kt_63.2 3 rfl ?_
            refine px_PW.ret kt_63.2 rfl rfl ?_
            have E : s_seen Z N F thing row what = ((s_look (c_lay Z F row ((F 0) 6)) (F 3 thing.toNatClampNeg) (F 3 thing.toNatClampNeg + F 4 thing.toNatClampNeg)) 13) := (if_neg c0).trans ((if_neg c1).trans ((if_neg c2).trans ((if_neg c3).trans (if_pos c4))))
            rw [E]
            exact ⟨rfl, _, _, _, ((px_sc.z (c_lay_same _ _ _ _)).tr (px_sc.z (s_look_same _ _ _))).tr (px_sc25 hx9), rfl⟩
          · skip
            by_cases c5 : what = 3
            · refine px_PW.at (pc' := 100) (show px_sw 0 [76, 84, 92, 100, 108] 111 (what : Int32).toInt = 100 by rw [c5]; rfl) ?_
              refine px_PW.steps kt_63.2 3 rfl ?_
              refine px_PW.ret kt_63.2 rfl rfl ?_
              have E : s_seen Z N F thing row what = ((s_look (c_lay Z F row ((F 0) 6)) (F 3 thing.toNatClampNeg) (F 3 thing.toNatClampNeg + F 4 thing.toNatClampNeg)) 14) := (if_neg c0).trans ((if_neg c1).trans ((if_neg c2).trans ((if_neg c3).trans ((if_neg c4).trans (if_pos c5)))))
              rw [E]
              exact ⟨rfl, _, _, _, ((px_sc.z (c_lay_same _ _ _ _)).tr (px_sc.z (s_look_same _ _ _))).tr (px_sc25 hx9), rfl⟩
            · skip
              by_cases c6 : what = 4
              · refine px_PW.at (pc' := 108) (show px_sw 0 [76, 84, 92, 100, 108] 111 (what : Int32).toInt = 108 by rw [c6]; rfl) ?_
                refine px_PW.steps kt_63.2 1 rfl ?_
                refine px_PW.ret kt_63.2 rfl rfl ?_
                have E : s_seen Z N F thing row what = (s_hv (c_lay Z F row ((F 0) 6)) N F thing) := (if_neg c0).trans ((if_neg c1).trans ((if_neg c2).trans ((if_neg c3).trans ((if_neg c4).trans ((if_neg c5).trans (if_pos c6))))))
                rw [E]
                exact ⟨rfl, _, _, _, ((px_sc.z (c_lay_same _ _ _ _)).tr (px_sc.z (s_look_same _ _ _))).tr (px_sc25 hx9), rfl⟩
              · skip
                refine px_PW.at (px_swd_63_41 c2 c3 c4 c5 c6) ?_
                refine px_PW.steps kt_63.2 2 rfl ?_
                refine px_PW.callV kt_63.2 rfl rfl rfl rfl (cc_error (N := (upd N 25 x9)) hw.2.2.1 1 (by decide)) (by decide) (fun v h1 q => ?_)
                obtain ⟨rfl, rfl⟩ := q
                refine px_PW.ret kt_63.2 rfl rfl ?_
                have E : s_seen Z N F thing row what = (-1000000000 - 1) := (if_neg c0).trans ((if_neg c1).trans ((if_neg c2).trans ((if_neg c3).trans ((if_neg c4).trans ((if_neg c5).trans (if_neg c6))))))
                rw [E]
                exact ⟨rfl, _, _, _, (((px_sc.z (c_lay_same _ _ _ _)).tr (px_sc.z (s_look_same _ _ _))).tr (px_sc25 hx9)).tr (px_sc.err), rfl⟩
    · have c1 : row < 0 ∨ ((F 0) 4) ≤ row := px_b0z (of_decide_eq_true (px_nf c1))
      refine px_PW.steps kt_63.2 2 rfl ?_
      refine px_PW.callV kt_63.2 rfl rfl rfl rfl (cc_error (N := N) hw.2.2.1 1 (by decide)) (by decide) (fun v h1 q => ?_)
      obtain ⟨rfl, rfl⟩ := q
      refine px_PW.ret kt_63.2 rfl rfl ?_
      have E : s_seen Z N F thing row what = (-1000000000 - 1) := (if_neg c0).trans (if_pos c1)
      rw [E]
      exact ⟨rfl, _, _, _, px_sc.err, rfl⟩
def c_hv (N : Nat → Int32) (F : Nat → Nat → Int32) (k s : Int32) (t : Nat) : Int32 := s_hv (c_lay (fun _ => 0) F k s) N F (nI t)
def s_hrow (N : Nat → Int32) (F : Nat → Nat → Int32) (M : Nat) (k s a : Int32) : Int32 := c_fold (c_hv N F k s) (fun x y => x + y) M 0 a
def s_hall (N : Nat → Int32) (F : Nat → Nat → Int32) (M : Nat) (s : Int32) : Nat → Nat → Int32 → Int32
  | 0, _, a => a
  | m + 1, k, a => s_hall N F M s m (k + 1) (s_hrow N F M (nI k) s a)
theorem px_thM {N : Nat → Int32} {M t : Nat} (hM : N 1 = nI M) (hM6 : M ≤ 6) (h : t < M) : ¬ (nI t < 0 ∨ N 1 ≤ nI t) := by
  rw [hM]
  exact fun q => q.elim (nI_pos (by omega)) (nI_ge h (by omega))
theorem c_hr_loop {N : Nat → Int32} {F : Nat → Nat → Int32} (hw : px_cw N) (hT : N 2 = N 1 ∧ N 3 = N 1 ∧ N 4 = N 1) {M : Nat} (hM : N 1 = nI M) (hM6 : M ≤ 6) {s : Int32} {k : Nat} {Q : Option Value → px_H → Prop} : ∀ (m t : Nat) (a : Int32) (Z : Nat → Int32) (x : Int32) (g : Nat → Int32), t + m = M → (0 ≤ x ∧ x.toInt ≤ 60) → (∀ i : Nat, 6 ≤ i → i ≤ 10 → Z i = c_lay (fun _ => 0) F (nI k) s i) → (∀ (Z' : Nat → Int32) (x : Int32) (g : Nat → Int32), px_same Z Z' → (0 ≤ x ∧ x.toInt ≤ 60) → px_PW 5 pc_110 Q 52 [some (.ref 0), some (.int s), some (.int (c_fold (c_hv N F (nI k) s) (fun x y => x + y) m t a)), some (.int (nI k)), some (.int (nI M))] [] (px_CH Z' (upd N 25 x) (va_up F 25 g), [])) → px_PW 5 pc_110 Q 22 [some (.ref 0), some (.int s), some (.int a), some (.int (nI k)), some (.int (nI t))] [] (px_CH Z (upd N 25 x) (va_up F 25 g), [])
  | m, t, a, Z, x, g, ht, hx, hZ, H => by
    refine px_PW.steps kt_110.2 4 rfl ?_
    refine px_PW.callV kt_110.2 rfl rfl rfl rfl (nb_size (q := 1) (by decide)) (by decide) (fun v h1 q => ?_)
    obtain ⟨rfl, rfl⟩ := q
    rw [show (upd N 25 x) 1 = nI M from hM]
    refine px_PW.steps kt_110.2 1 rfl ?_
    refine px_PW.br (fun c0 => ?_) (fun c0 => ?_)
    · have c0 : (nI M) ≤ (nI t) := of_decide_eq_true c0
      have c0 : M ≤ t := (nI_leI (a := M) (b := t) (by omega) (by omega)).mp c0
      obtain rfl : m = 0 := by omega
      obtain rfl : t = M := by omega
      exact H Z x g px_same.rf hx
    · have c0 : ¬ ((nI M) ≤ (nI t)) := of_decide_eq_false c0
      have c0 : ¬ (M ≤ t) := fun q => c0 ((nI_leI (a := M) (b := t) (by omega) (by omega)).mpr q)
      obtain ⟨m2, rfl⟩ : ∃ m2, m = m2 + 1 := ⟨m - 1, by omega⟩
      refine px_PW.steps kt_110.2 3 rfl ?_
      refine px_PW.callV kt_110.2 rfl rfl rfl rfl (cv_harmOf (N := upd N 25 x) (F := va_up F 25 g) (px_cw25 hw hx) hT (px_thM hM hM6 (show t < M by omega))) (by decide) (fun v h1 q => ?_)
      obtain ⟨rfl, x9, g9, hx9, rfl⟩ := q
      rw [show s_hv Z (upd N 25 x) (va_up F 25 g) (nI t) = c_hv N F (nI k) s t from s_hv_congr hZ _]
      refine px_PW.steps kt_110.2 4 rfl ?_
      have g2 := c_hr_loop hw hT hM hM6 (s := s) (k := k) (Q := Q) m2 (t + 1) (a + c_hv N F (nI k) s t) _ x9 g9 (by omega) hx9 (fun i h1 h2 => (s_look_lay Z (F 3 (nI t).toNatClampNeg) (F 3 (nI t).toNatClampNeg + F 4 (nI t).toNatClampNeg) i h1 h2).trans (hZ i h1 h2)) (fun Z8 x8 g8 h8 => H Z8 x8 g8 ((s_look_same Z _ _).tr h8))
      rw [nI_succ t] at g2
      have e3 : upd (upd N 25 x) 25 x9 = upd N 25 x9 := zz_uu N 25 x x9
      have e4 : va_up (va_up F 25 g) 25 g9 = va_up F 25 g9 := px_up_up F 25 g g9
      rw [e3, e4]
      exact g2
theorem c_ha_loop {N : Nat → Int32} {F : Nat → Nat → Int32} (hw : px_cw N) (hT : N 2 = N 1 ∧ N 3 = N 1 ∧ N 4 = N 1) {M : Nat} (hM : N 1 = nI M) (hM6 : M ≤ 6) {R : Nat} (hR : F 0 4 = nI R) (hR8 : R ≤ 8) {s : Int32} {Q : Option Value → px_H → Prop} : ∀ (m k : Nat) (a : Int32) (Z : Nat → Int32) (x : Int32) (g : Nat → Int32) (o4 : Option Value), k + m = R → (0 ≤ x ∧ x.toInt ≤ 60) → (∀ (Z' : Nat → Int32) (x : Int32) (g : Nat → Int32) (o4 : Option Value), px_same Z Z' → (0 ≤ x ∧ x.toInt ≤ 60) → px_PW 5 pc_110 Q 58 [some (.ref 0), some (.int s), some (.int (s_hall N F M s m k a)), some (.int (nI R)), o4] [] (px_CH Z' (upd N 25 x) (va_up F 25 g), [])) → px_PW 5 pc_110 Q 4 [some (.ref 0), some (.int s), some (.int a), some (.int (nI k)), o4] [] (px_CH Z (upd N 25 x) (va_up F 25 g), [])
  | m, k, a, Z, x, g, o4, hk, hx, H => by
    refine px_PW.steps kt_110.2 3 rfl ?_
    refine px_PW.callV kt_110.2 rfl rfl rfl rfl (cc_is (N := upd N 25 x) (F := va_up F 25 g) hw.1 4 (by decide)) (by decide) (fun v h1 q => ?_)
    obtain ⟨rfl, rfl⟩ := q
    rw [show (va_up F 25 g) 0 4 = nI R from hR]
    refine px_PW.steps kt_110.2 1 rfl ?_
    refine px_PW.br (fun c0 => ?_) (fun c0 => ?_)
    · have c0 : (nI R) ≤ (nI k) := of_decide_eq_true c0
      have c0 : R ≤ k := (nI_leI (a := R) (b := k) (by omega) (by omega)).mp c0
      obtain rfl : m = 0 := by omega
      obtain rfl : k = R := by omega
      exact H Z x g _ px_same.rf hx
    · have c0 : ¬ ((nI R) ≤ (nI k)) := of_decide_eq_false c0
      have c0 : ¬ (R ≤ k) := fun q => c0 ((nI_leI (a := R) (b := k) (by omega) (by omega)).mpr q)
      obtain ⟨m2, rfl⟩ : ∃ m2, m = m2 + 1 := ⟨m - 1, by omega⟩
      refine px_PW.steps kt_110.2 3 rfl ?_
      refine px_PW.callV kt_110.2 rfl rfl rfl rfl (rr_lay (N := upd N 25 x) (F := va_up F 25 g) hw.1 _ _) (by decide) (fun v h1 q => ?_)
      obtain ⟨rfl, rfl⟩ := q
      refine px_PW.steps kt_110.2 2 rfl ?_
      refine c_hr_loop hw hT hM hM6 (s := s) (k := k) M 0 a (c_lay Z F (nI k) s) x g (by omega) hx (fun i h1 h2 => ?_) (fun Z8 x8 g8 h8 hx8 => ?_)
      · rcases (show i = 6 ∨ i = 7 ∨ i = 8 ∨ i = 9 ∨ i = 10 by omega) with rfl | rfl | rfl | rfl | rfl <;> rfl
      · refine px_PW.steps kt_110.2 2 rfl ?_
        have g2 := c_ha_loop hw hT hM hM6 hR hR8 (s := s) (Q := Q) m2 (k + 1) (s_hrow N F M (nI k) s a) Z8 x8 g8 (some (.int (nI M))) (by omega) hx8 (fun Z7 x7 g7 o7 h7 => H Z7 x7 g7 o7 (((c_lay_same Z F _ _).tr h8).tr h7))
        rw [nI_succ k] at g2
        exact g2
theorem cv_harmBy {Z N : Nat → Int32} {F : Nat → Nat → Int32} (hw : px_cw N) (hT : N 2 = N 1 ∧ N 3 = N 1 ∧ N 4 = N 1) {M : Nat} (hM : N 1 = nI M) (hM6 : M ≤ 6) {R : Nat} (hR : F 0 4 = nI R) (hR8 : R ≤ 8) (s : Int32) : px_PM 6 110 [.ref 0, .int s] (px_CH Z N F, []) (fun r h' => r = some (.int (s_hall N F M s R 0 0)) ∧ ∃ (Z' : Nat → Int32) (x : Int32) (g : Nat → Int32), px_same Z Z' ∧ (0 ≤ x ∧ x.toInt ≤ 60) ∧ h' = (px_CH Z' (upd N 25 x) (va_up F 25 g), [])) := by
  refine px_PM.start (nL := 5) (code := pc_110) rfl rfl ?_
  refine px_PW.steps kt_110.2 4 rfl ?_
  refine px_PW.hp (h' := (px_CH Z (upd N 25 (N 25)) (va_up F 25 (F 25)), [])) (by rw [zz_ui, px_up_id]) ?_
  refine c_ha_loop hw hT hM hM6 hR hR8 (s := s) R 0 0 Z (N 25) (F 25) none (by omega) ⟨hw.nn (q := 25) (by decide), hw.lim (q := 25) (by decide)⟩ (fun Z7 x7 g7 o7 h7 hx7 => ?_)
  refine px_PW.steps kt_110.2 1 rfl ?_
  exact px_PW.ret kt_110.2 rfl rfl ⟨rfl, Z7, x7, g7, h7, hx7, rfl⟩
theorem s_hall_25 (N : Nat → Int32) (F : Nat → Nat → Int32) (x : Int32) (g : Nat → Int32) (M : Nat) (s : Int32) : ∀ (m k : Nat) (a : Int32), s_hall (upd N 25 x) (va_up F 25 g) M s m k a = s_hall N F M s m k a
  | 0, _, _ => rfl
  | m + 1, k, a => s_hall_25 N F x g M s m (k + 1) _
/-- m more STARTS from k on: where HARM is least, and how much -/
def s_calm (h : Nat → Int32) : Nat → Nat → Nat × Int32 → Nat × Int32
  | 0, _, a => a
  | m + 1, k, a => s_calm h m (k + 1) (if h k < a.2 then (k, h k) else a)
theorem c_calm_loop {N : Nat → Int32} {F : Nat → Nat → Int32} (hw : px_cw N) (hT : N 2 = N 1 ∧ N 3 = N 1 ∧ N 4 = N 1) {M : Nat} (hM : N 1 = nI M) (hM6 : M ≤ 6) {R : Nat} (hR : F 0 4 = nI R) (hR8 : R ≤ 8) {T : Nat} (hTi : F 0 1 = nI T) (hT200 : T ≤ 200) {what : Int32} {Q : Option Value → px_H → Prop} : ∀ (m k : Nat) (a : Nat × Int32) (Z : Nat → Int32) (x : Int32) (g : Nat → Int32) (o5 : Option Value), k + m = T + 1 → (0 ≤ x ∧ x.toInt ≤ 60) → (∀ (Z' : Nat → Int32) (x : Int32) (g : Nat → Int32) (o4 : Nat) (o5 : Option Value), px_same Z Z' → (0 ≤ x ∧ x.toInt ≤ 60) → px_PW 6 pc_68 Q 62 [some (.ref 0), some (.int what), some (.int (nI (s_calm (fun s => s_hall N F M (nI s) R 0 0) m k a).1)), some (.int (s_calm (fun s => s_hall N F M (nI s) R 0 0) m k a).2), some (.int (nI o4)), o5] [] (px_CH Z' (upd N 25 x) (va_up F 25 g), [])) → px_PW 6 pc_68 Q 26 [some (.ref 0), some (.int what), some (.int (nI a.1)), some (.int a.2), some (.int (nI k)), o5] [] (px_CH Z (upd N 25 x) (va_up F 25 g), [])
  | m, k, a, Z, x, g, o5, hk, hx, H => by
    refine px_PW.steps kt_68.2 3 rfl ?_
    refine px_PW.callV kt_68.2 rfl rfl rfl rfl (cc_is (N := upd N 25 x) (F := va_up F 25 g) hw.1 1 (by decide)) (by decide) (fun v h1 q => ?_)
    obtain ⟨rfl, rfl⟩ := q
    rw [show (va_up F 25 g) 0 1 = nI T from hTi]
    refine px_PW.steps kt_68.2 1 rfl ?_
    refine px_PW.br (fun c0 => ?_) (fun c0 => ?_)
    · have c0 : (nI T) < (nI k) := of_decide_eq_true c0
      have c0 : T < k := (nI_ltI (a := T) (b := k) (by omega) (by omega)).mp c0
      obtain rfl : m = 0 := by omega
      exact H Z x g k _ px_same.rf hx
    · have c0 : ¬ ((nI T) < (nI k)) := of_decide_eq_false c0
      have c0 : ¬ (T < k) := fun q => c0 ((nI_ltI (a := T) (b := k) (by omega) (by omega)).mpr q)
      obtain ⟨m2, rfl⟩ : ∃ m2, m = m2 + 1 := ⟨m - 1, by omega⟩
      refine px_PW.steps kt_68.2 2 rfl ?_
      refine px_PW.callV kt_68.2 rfl rfl rfl rfl (cv_harmBy (N := (upd N 25 x)) (F := (va_up F 25 g)) (px_cw25 hw hx) hT hM hM6 hR hR8 _) (by decide) (fun v h1 q => ?_)
      obtain ⟨rfl, Z300, x300, g300, hz300, hx300, rfl⟩ := q
      rw [show s_hall (upd N 25 x) (va_up F 25 g) M (nI k) R 0 0 = s_hall N F M (nI k) R 0 0 from s_hall_25 ..]
      refine px_PW.steps kt_68.2 4 rfl ?_
      refine px_PW.br (fun c1 => ?_) (fun c1 => ?_)
      · have c1 : a.2 ≤ (s_hall N F M (nI k) R 0 0) := of_decide_eq_true c1
        refine px_PW.steps kt_68.2 2 rfl ?_
        have e0 : s_calm (fun s => s_hall N F M (nI s) R 0 0) (m2 + 1) k a = s_calm (fun s => s_hall N F M (nI s) R 0 0) m2 (k + 1) a := congrArg (s_calm (fun s => s_hall N F M (nI s) R 0 0) m2 (k + 1)) (if_neg (Int32.not_lt.mpr c1))
        have g2 := c_calm_loop hw hT hM hM6 hR hR8 hTi hT200 (what := what) (Q := Q) m2 (k + 1) a Z300 x300 g300 (some (.int (s_hall N F M (nI k) R 0 0))) (by omega) hx300 (fun Z8 x8 g8 o4 o5 h8 hx8 => by have h := H Z8 x8 g8 o4 o5 (hz300.tr h8) hx8; rw [e0] at h; exact h)
        rw [nI_succ k] at g2
        rw [zz_uu, px_up_up]
        exact g2
      · have c1 : ¬ (a.2 ≤ (s_hall N F M (nI k) R 0 0)) := of_decide_eq_false c1
        refine px_PW.steps kt_68.2 6 rfl ?_
        have e0 : s_calm (fun s => s_hall N F M (nI s) R 0 0) (m2 + 1) k a = s_calm (fun s => s_hall N F M (nI s) R 0 0) m2 (k + 1) (k, s_hall N F M (nI k) R 0 0) := congrArg (s_calm (fun s => s_hall N F M (nI s) R 0 0) m2 (k + 1)) (if_pos (Int32.not_le.mp c1))
        have g2 := c_calm_loop hw hT hM hM6 hR hR8 hTi hT200 (what := what) (Q := Q) m2 (k + 1) (k, s_hall N F M (nI k) R 0 0) Z300 x300 g300 (some (.int (s_hall N F M (nI k) R 0 0))) (by omega) hx300 (fun Z8 x8 g8 o4 o5 h8 hx8 => by have h := H Z8 x8 g8 o4 o5 (hz300.tr h8) hx8; rw [e0] at h; exact h)
        rw [nI_succ k] at g2
        rw [zz_uu, px_up_up]
        exact g2
def s_calmv (M R T : Nat) (Z N : Nat → Int32) (F : Nat → Nat → Int32) (what : Int32) : Int32 := (if what < 0 then (-1000000000 - 1) else (if what ≤ 1 then (if what = 0 then (nI (s_calm (fun s => s_hall N F M (nI s) R 0 0) (T - 1) 2 (1, s_hall N F M 1 R 0 0)).1) else (s_calm (fun s => s_hall N F M (nI s) R 0 0) (T - 1) 2 (1, s_hall N F M 1 R 0 0)).2) else (-1000000000 - 1)))
theorem kc_calm {Z N : Nat → Int32} {F : Nat → Nat → Int32} (hw : px_cw N) (hT : N 2 = N 1 ∧ N 3 = N 1 ∧ N 4 = N 1) {M : Nat} (hM : N 1 = nI M) (hM6 : M ≤ 6) {R : Nat} (hR : F 0 4 = nI R) (hR8 : R ≤ 8) {T : Nat} (hTi : F 0 1 = nI T) (hT200 : T ≤ 200) (hT1 : 1 ≤ T) (what : Int32) : px_PM 7 68 [.ref 0, .int what] (px_CH Z N F, []) (fun r h' => r = some (.int (s_calmv M R T Z N F what)) ∧ ∃ Z' N' F', px_sc Z N F Z' N' F' ∧ h' = (px_CH Z' N' F', [])) := by
  refine px_PM.start (nL := 6) (code := pc_68) rfl rfl ?_
  refine px_PW.steps kt_68.2 2 rfl ?_
  refine px_PW.br (fun c0 => ?_) (fun c0 => ?_)
  · have c0 : what < 0 := of_decide_eq_true c0
    refine px_PW.steps kt_68.2 2 rfl ?_
    refine px_PW.callV kt_68.2 rfl rfl rfl rfl (cc_error (N := N) hw.2.2.1 1 (by decide)) (by decide) (fun v h1 q => ?_)
    obtain ⟨rfl, rfl⟩ := q
    refine px_PW.ret kt_68.2 rfl rfl ?_
    have E : s_calmv M R T Z N F what = (-1000000000 - 1) := if_pos c0
    rw [E]
    exact ⟨rfl, _, _, _, px_sc.err, rfl⟩
  · have c0 : ¬ (what < 0) := of_decide_eq_false c0
    refine px_PW.steps kt_68.2 3 rfl ?_
    refine px_PW.br (fun c1 => ?_) (fun c1 => ?_)
    · have c1 : what ≤ 1 := of_decide_eq_true c1
      refine px_PW.steps kt_68.2 4 rfl ?_
      refine px_PW.callV kt_68.2 rfl rfl rfl rfl (cv_harmBy (N := N) (F := F) hw hT hM hM6 hR hR8 _) (by decide) (fun v h1 q => ?_)
      obtain ⟨rfl, Z300, x300, g300, hz300, hx300, rfl⟩ := q
      refine px_PW.steps kt_68.2 3 rfl ?_
      refine c_calm_loop hw hT hM hM6 hR hR8 hTi hT200 (what := what) (T - 1) 2 (1, s_hall N F M 1 R 0 0) Z300 x300 g300 none (by omega) hx300 (fun Z8 x8 g8 o4 o5 h8 hx8 => ?_)
      refine px_PW.steps kt_68.2 2 rfl ?_
      refine px_PW.br (fun c2 => ?_) (fun c2 => ?_)
      · have c2 : ¬ (what = 0) := of_decide_eq_false (px_nt c2)
        refine px_PW.steps kt_68.2 1 rfl ?_
        refine px_PW.ret kt_68.2 rfl rfl ?_
        have E : s_calmv M R T Z N F what = (s_calm (fun s => s_hall N F M (nI s) R 0 0) (T - 1) 2 (1, s_hall N F M 1 R 0 0)).2 := (if_neg c0).trans ((if_pos c1).trans (if_neg c2))
        rw [E]
        exact ⟨rfl, _, _, _, (px_sc.z (hz300.tr h8)).tr (px_sc25 hx8), rfl⟩
      · have c2 : what = 0 := of_decide_eq_true (px_nf c2)
        refine px_PW.steps kt_68.2 2 rfl ?_
        refine px_PW.ret kt_68.2 rfl rfl ?_
        have E : s_calmv M R T Z N F what = (nI (s_calm (fun s => s_hall N F M (nI s) R 0 0) (T - 1) 2 (1, s_hall N F M 1 R 0 0)).1) := (if_neg c0).trans ((if_pos c1).trans (if_pos c2))
        rw [E]
        exact ⟨rfl, _, _, _, (px_sc.z (hz300.tr h8)).tr (px_sc25 hx8), rfl⟩
    · have c1 : ¬ (what ≤ 1) := of_decide_eq_false c1
      refine px_PW.steps kt_68.2 2 rfl ?_
      refine px_PW.callV kt_68.2 rfl rfl rfl rfl (cc_error (N := N) hw.2.2.1 1 (by decide)) (by decide) (fun v h1 q => ?_)
      obtain ⟨rfl, rfl⟩ := q
      refine px_PW.ret kt_68.2 rfl rfl ?_
      have E : s_calmv M R T Z N F what = (-1000000000 - 1) := (if_neg c0).trans (if_neg c1)
      rw [E]
      exact ⟨rfl, _, _, _, px_sc.err, rfl⟩
def s_tiles (R : Nat) (N : Nat → Int32) (F : Nat → Nat → Int32) : Int32 := ((((c_pcs F R) - (c_halves F R)) + (((c_halves F R) + 1) / 2)) + (s_ruled0 N F (c_cuts F R ((F 0) 6)) (((c_pcs F R) - (c_halves F R)) + (((c_halves F R) + 1) / 2)) ((F 0) 1)))
theorem cv_tiles {Z N : Nat → Int32} {F : Nat → Nat → Int32} (hw : px_cw N) {R : Nat} (hR : F 0 4 = nI R) (hR8 : R ≤ 8) : px_PM 6 109 [.ref 0] (px_CH Z N F, []) (fun r h' => r = some (.int (s_tiles R N F)) ∧ ∃ Z' N' F', px_sc Z N F Z' N' F' ∧ h' = (px_CH Z' N' F', [])) := by
  refine px_PM.start (nL := 3) (code := pc_109) rfl rfl ?_
  refine px_PW.steps kt_109.2 1 rfl ?_
  refine px_PW.callV kt_109.2 rfl rfl rfl rfl (cb_halves hw.1 hR hR8) (by decide) (fun v h1 q => ?_)
  obtain ⟨rfl, Z100, hZ100, rfl⟩ := q
  refine px_PW.steps kt_109.2 2 rfl ?_
  refine px_PW.callV kt_109.2 rfl rfl rfl rfl (cb_pcs hw.1 hR hR8) (by decide) (fun v h1 q => ?_)
  obtain ⟨rfl, Z101, hZ101, rfl⟩ := q
  refine px_PW.steps kt_109.2 15 rfl ?_
  refine px_PW.callV kt_109.2 rfl rfl rfl rfl (cc_is (N := N) hw.1 6 (by decide)) (by decide) (fun v h1 q => ?_)
  obtain ⟨rfl, rfl⟩ := q
  refine px_PW.callV kt_109.2 rfl rfl rfl rfl (cb_cuts hw.1 hR hR8 _) (by decide) (fun v h1 q => ?_)
  obtain ⟨rfl, Z102, hZ102, rfl⟩ := q
  refine px_PW.steps kt_109.2 3 rfl ?_
  refine px_PW.callV kt_109.2 rfl rfl rfl rfl (cc_is (N := N) hw.1 1 (by decide)) (by decide) (fun v h1 q => ?_)
  obtain ⟨rfl, rfl⟩ := q
  refine px_PW.callV kt_109.2 rfl rfl rfl rfl (cv_ruled0 hw _ _ _) (by decide) (fun v h1 q => ?_)
  obtain ⟨rfl, x9, g9, hx9, rfl⟩ := q
  refine px_PW.steps kt_109.2 1 rfl ?_
  refine px_PW.ret kt_109.2 rfl rfl ?_
  exact ⟨rfl, _, _, _, (((px_sc.z hZ100).tr (px_sc.z hZ101)).tr (px_sc.z hZ102)).tr (px_sc25 hx9), rfl⟩
def s_buy (M R : Nat) (Z N : Nat → Int32) (F : Nat → Nat → Int32) (what : Int32) : Int32 := (if what = 0 then (s_tiles R N F) else (if what = 1 then (i_quo (((s_tiles R N F) + 40) - 1) 40) else (if what = 2 then (c_cuts F R ((F 0) 6)) else (if what = 3 then (c_nar F R ((F 0) 6)) else (if what = 4 then (c_halves F R) else (if what = 5 then (s_hall N F M ((F 0) 6) R 0 0) else (-1000000000 - 1)))))))
theorem px_swd_64_1 {x : Int32} (c0 : ¬ (x = 0)) (c1 : ¬ (x = 1)) (c2 : ¬ (x = 2)) (c3 : ¬ (x = 3)) (c4 : ¬ (x = 4)) (c5 : ¬ (x = 5)) : px_sw 0 [40, 45, 60, 71, 82, 87] 98 x.toInt = 98 := by
  have d0 : ¬ (x.toInt = 0) := fun h => c0 (px_i_of h (by decide +kernel))
  have d1 : ¬ (x.toInt = 1) := fun h => c1 (px_i_of h (by decide +kernel))
  have d2 : ¬ (x.toInt = 2) := fun h => c2 (px_i_of h (by decide +kernel))
  have d3 : ¬ (x.toInt = 3) := fun h => c3 (px_i_of h (by decide +kernel))
  have d4 : ¬ (x.toInt = 4) := fun h => c4 (px_i_of h (by decide +kernel))
  have d5 : ¬ (x.toInt = 5) := fun h => c5 (px_i_of h (by decide +kernel))
  exact px_sw_d (fun y h1 h2 => by
    have h1 : (0 : Int) ≤ y := h1
    have h2 : y < 6 := h2
    rcases (show y = 0 ∨ y = 1 ∨ y = 2 ∨ y = 3 ∨ y = 4 ∨ y = 5 by omega) with rfl | rfl | rfl | rfl | rfl | rfl
    · exact Or.inl (fun h => d0 h)
    · exact Or.inl (fun h => d1 h)
    · exact Or.inl (fun h => d2 h)
    · exact Or.inl (fun h => d3 h)
    · exact Or.inl (fun h => d4 h)
    · exact Or.inl (fun h => d5 h))
theorem kc_buy {Z N : Nat → Int32} {F : Nat → Nat → Int32} (hw : px_cw N) (hT : N 2 = N 1 ∧ N 3 = N 1 ∧ N 4 = N 1) {M : Nat} (hM : N 1 = nI M) (hM6 : M ≤ 6) {R : Nat} (hR : F 0 4 = nI R) (hR8 : R ≤ 8) (what : Int32) : px_PM 7 64 [.ref 0, .int what] (px_CH Z N F, []) (fun r h' => r = some (.int (s_buy M R Z N F what)) ∧ ∃ Z' N' F', px_sc Z N F Z' N' F' ∧ h' = (px_CH Z' N' F', [])) := by
  refine px_PM.start (nL := 2) (code := pc_64) rfl rfl ?_
  refine px_PW.steps kt_64.2 2 rfl ?_
  by_cases c0 : what = 0
  · refine px_PW.at (pc' := 40) (show px_sw 0 [40, 45, 60, 71, 82, 87] 98 (what : Int32).toInt = 40 by rw [c0]; rfl) ?_
    refine px_PW.steps kt_64.2 1 rfl ?_
    refine px_PW.callV kt_64.2 rfl rfl rfl rfl (cv_tiles hw hR hR8) (by decide) (fun v h1 q => ?_)
    obtain ⟨rfl, Z400, N400, F400, hs400, rfl⟩ := q
    refine px_PW.ret kt_64.2 rfl rfl ?_
    have E : s_buy M R Z N F what = (s_tiles R N F) := if_pos c0
    rw [E]
    exact ⟨rfl, _, _, _, hs400, rfl⟩
  · skip
    by_cases c1 : what = 1
    · refine px_PW.at (pc' := 45) (show px_sw 0 [40, 45, 60, 71, 82, 87] 98 (what : Int32).toInt = 45 by rw [c1]; rfl) ?_
      refine px_PW.steps kt_64.2 1 rfl ?_
      refine px_PW.callV kt_64.2 rfl rfl rfl rfl (cv_tiles hw hR hR8) (by decide) (fun v h1 q => ?_)
      obtain ⟨rfl, Z400, N400, F400, hs400, rfl⟩ := q
      refine px_PW.steps kt_64.2 5 rfl ?_
      refine px_PW.callS kt_64.2 rfl rfl rfl (cc_quot _ _ _) (by decide) (fun v h1 q => ?_)
      obtain ⟨rfl, rfl⟩ := q
      refine px_PW.ret kt_64.2 rfl rfl ?_
      have E : s_buy M R Z N F what = (i_quo (((s_tiles R N F) + 40) - 1) 40) := (if_neg c0).trans (if_pos c1)
      rw [E]
      exact ⟨rfl, _, _, _, hs400, rfl⟩
    · skip
      by_cases c2 : what = 2
      · refine px_PW.at (pc' := 60) (show px_sw 0 [40, 45, 60, 71, 82, 87] 98 (what : Int32).toInt = 60 by rw [c2]; rfl) ?_
        refine px_PW.steps kt_64.2 3 rfl ?_
        refine px_PW.callV kt_64.2 rfl rfl rfl rfl (cc_is (N := N) hw.1 6 (by decide)) (by decide) (fun v h1 q => ?_)
        obtain ⟨rfl, rfl⟩ := q
        refine px_PW.callV kt_64.2 rfl rfl rfl rfl (cb_cuts hw.1 hR hR8 _) (by decide) (fun v h1 q => ?_)
        obtain ⟨rfl, Z100, hZ100, rfl⟩ := q
        refine px_PW.ret kt_64.2 rfl rfl ?_
        have E : s_buy M R Z N F what = (c_cuts F R ((F 0) 6)) := (if_neg c0).trans ((if_neg c1).trans (if_pos c2))
        rw [E]
        exact ⟨rfl, _, _, _, px_sc.z hZ100, rfl⟩
      · skip
        by_cases c3 : what = 3
        · refine px_PW.at (pc' := 71) (show px_sw 0 [40, 45, 60, 71, 82, 87] 98 (what : Int32).toInt = 71 by rw [c3]; rfl) ?_
          refine px_PW.steps kt_64.2 3 rfl ?_
          refine px_PW.callV kt_64.2 rfl rfl rfl rfl (cc_is (N := N) hw.1 6 (by decide)) (by decide) (fun v h1 q => ?_)
          obtain ⟨rfl, rfl⟩ := q
          refine px_PW.callV kt_64.2 rfl rfl rfl rfl (cb_nar hw.1 hR hR8 _) (by decide) (fun v h1 q => ?_)
          obtain ⟨rfl, Z100, hZ100, rfl⟩ := q
          refine px_PW.ret kt_64.2 rfl rfl ?_
          have E : s_buy M R Z N F what = (c_nar F R ((F 0) 6)) := (if_neg c0).trans ((if_neg c1).trans ((if_neg c2).trans (if_pos c3)))
          rw [E]
          exact ⟨rfl, _, _, _, px_sc.z hZ100, rfl⟩
        · skip
          by_cases c4 : what = 4
          · refine px_PW.at (pc' := 82) (show px_sw 0 [40, 45, 60, 71, 82, 87] 98 (what : Int32).toInt = 82 by rw [c4]; rfl) ?_
            refine px_PW.steps kt_64.2 1 rfl ?_
            refine px_PW.callV kt_64.2 rfl rfl rfl rfl (cb_halves hw.1 hR hR8) (by decide) (fun v h1 q => ?_)
            obtain ⟨rfl, Z100, hZ100, rfl⟩ := q
            refine px_PW.ret kt_64.2 rfl rfl ?_
            have E : s_buy M R Z N F what = (c_halves F R) := (if_neg c0).trans ((if_neg c1).trans ((if_neg c2).trans ((if_neg c3).trans (if_pos c4))))
            rw [E]
            exact ⟨rfl, _, _, _, px_sc.z hZ100, rfl⟩
          · skip
            by_cases c5 : what = 5
            · refine px_PW.at (pc' := 87) (show px_sw 0 [40, 45, 60, 71, 82, 87] 98 (what : Int32).toInt = 87 by rw [c5]; rfl) ?_
              refine px_PW.steps kt_64.2 3 rfl ?_
              refine px_PW.callV kt_64.2 rfl rfl rfl rfl (cc_is (N := N) hw.1 6 (by decide)) (by decide) (fun v h1 q => ?_)
              obtain ⟨rfl, rfl⟩ := q
              refine px_PW.callV kt_64.2 rfl rfl rfl rfl (cv_harmBy hw hT hM hM6 hR hR8 _) (by decide) (fun v h1 q => ?_)
              obtain ⟨rfl, Z300, x300, g300, hz300, hx300, rfl⟩ := q
              refine px_PW.ret kt_64.2 rfl rfl ?_
              have E : s_buy M R Z N F what = (s_hall N F M ((F 0) 6) R 0 0) := (if_neg c0).trans ((if_neg c1).trans ((if_neg c2).trans ((if_neg c3).trans ((if_neg c4).trans (if_pos c5)))))
              rw [E]
              exact ⟨rfl, _, _, _, (px_sc.z hz300).tr (px_sc25 hx300), rfl⟩
            · skip
              refine px_PW.at (px_swd_64_1 c0 c1 c2 c3 c4 c5) ?_
              refine px_PW.steps kt_64.2 2 rfl ?_
              refine px_PW.callV kt_64.2 rfl rfl rfl rfl (cc_error (N := N) hw.2.2.1 1 (by decide)) (by decide) (fun v h1 q => ?_)
              obtain ⟨rfl, rfl⟩ := q
              refine px_PW.ret kt_64.2 rfl rfl ?_
              have E : s_buy M R Z N F what = (-1000000000 - 1) := (if_neg c0).trans ((if_neg c1).trans ((if_neg c2).trans ((if_neg c3).trans ((if_neg c4).trans (if_neg c5)))))
              rw [E]
              exact ⟨rfl, _, _, _, px_sc.err, rfl⟩
def s_law0 (Z N : Nat → Int32) (F : Nat → Nat → Int32) (a : Int32) (b : Int32) (c : Int32) : Int32 := (s_ruled0 N F a b c)
theorem kc_law0 {Z N : Nat → Int32} {F : Nat → Nat → Int32} (hw : px_cw N) (a : Int32) (b : Int32) (c : Int32) : px_PM 5 60 [.ref 0, .int 0, .int a, .int b, .int c] (px_CH Z N F, []) (fun r h' => r = some (.int (s_law0 Z N F a b c)) ∧ ∃ Z' N' F', px_sc Z N F Z' N' F' ∧ h' = (px_CH Z' N' F', [])) := by
  refine px_PM.start (nL := 5) (code := pc_60) rfl rfl ?_
  refine px_PW.steps kt_60.2 1 rfl ?_
  refine px_PW.callS kt_60.2 rfl rfl rfl (cc_isUse _ _) (by decide) (fun v h1 q => ?_)
  obtain ⟨rfl, rfl⟩ := q
  refine px_PW.steps kt_60.2 1 rfl ?_
  refine px_PW.br (fun c0 => ?_) (fun c0 => ?_)
  · have c0 : ¬ (0 = 0 ∨ 0 = 1) := px_b1z (of_decide_eq_true c0)
    exact absurd (Or.inl rfl) c0
  · have c0 : 0 = 0 ∨ 0 = 1 := px_b1n (of_decide_eq_false c0)
    refine px_PW.steps kt_60.2 5 rfl ?_
    refine px_PW.callV kt_60.2 rfl rfl rfl rfl (cv_ruled0 hw _ _ _) (by decide) (fun v h1 q => ?_)
    obtain ⟨rfl, x9, g9, hx9, rfl⟩ := q
    refine px_PW.steps kt_60.2 1 rfl ?_
    refine px_PW.ret kt_60.2 rfl rfl ?_
    have E : s_law0 Z N F a b c = (s_ruled0 N F a b c) := rfl
    rw [E]
    exact ⟨rfl, _, _, _, px_sc25 hx9, rfl⟩
def s_law1 (Z N : Nat → Int32) (F : Nat → Nat → Int32) (a : Int32) (b : Int32) (c : Int32) : Int32 := (s_ruled1 N F a b c)
theorem kc_law1 {Z N : Nat → Int32} {F : Nat → Nat → Int32} (hw : px_cw N) (a : Int32) (b : Int32) (c : Int32) : px_PM 5 60 [.ref 0, .int 1, .int a, .int b, .int c] (px_CH Z N F, []) (fun r h' => r = some (.int (s_law1 Z N F a b c)) ∧ ∃ Z' N' F', px_sc Z N F Z' N' F' ∧ h' = (px_CH Z' N' F', [])) := by
  refine px_PM.start (nL := 5) (code := pc_60) rfl rfl ?_
  refine px_PW.steps kt_60.2 1 rfl ?_
  refine px_PW.callS kt_60.2 rfl rfl rfl (cc_isUse _ _) (by decide) (fun v h1 q => ?_)
  obtain ⟨rfl, rfl⟩ := q
  refine px_PW.steps kt_60.2 1 rfl ?_
  refine px_PW.br (fun c0 => ?_) (fun c0 => ?_)
  · have c0 : ¬ (1 = 0 ∨ 1 = 1) := px_b1z (of_decide_eq_true c0)
    exact absurd (Or.inr rfl) c0
  · have c0 : 1 = 0 ∨ 1 = 1 := px_b1n (of_decide_eq_false c0)
    refine px_PW.steps kt_60.2 5 rfl ?_
    refine px_PW.callV kt_60.2 rfl rfl rfl rfl (cv_ruled1 hw _ _ _) (by decide) (fun v h1 q => ?_)
    obtain ⟨rfl, x9, g9, hx9, rfl⟩ := q
    refine px_PW.steps kt_60.2 1 rfl ?_
    refine px_PW.ret kt_60.2 rfl rfl ?_
    have E : s_law1 Z N F a b c = (s_ruled1 N F a b c) := rfl
    rw [E]
    exact ⟨rfl, _, _, _, px_sc25 hx9, rfl⟩
def s_lawB (Z N : Nat → Int32) (F : Nat → Nat → Int32) (use : Int32) (a : Int32) (b : Int32) (c : Int32) : Int32 := (-1000000000 - 1)
theorem kc_lawB {Z N : Nat → Int32} {F : Nat → Nat → Int32} (hw : px_cw N) (use : Int32) (a : Int32) (b : Int32) (c : Int32) (hu : ¬ (use = 0 ∨ use = 1)) : px_PM 3 60 [.ref 0, .int use, .int a, .int b, .int c] (px_CH Z N F, []) (fun r h' => r = some (.int (s_lawB Z N F use a b c)) ∧ ∃ Z' N' F', px_sc Z N F Z' N' F' ∧ h' = (px_CH Z' N' F', [])) := by
  refine px_PM.start (nL := 5) (code := pc_60) rfl rfl ?_
  refine px_PW.steps kt_60.2 1 rfl ?_
  refine px_PW.callS kt_60.2 rfl rfl rfl (cc_isUse _ _) (by decide) (fun v h1 q => ?_)
  obtain ⟨rfl, rfl⟩ := q
  refine px_PW.steps kt_60.2 1 rfl ?_
  refine px_PW.br (fun c0 => ?_) (fun c0 => ?_)
  · have c0 : ¬ (use = 0 ∨ use = 1) := px_b1z (of_decide_eq_true c0)
    refine px_PW.steps kt_60.2 2 rfl ?_
    refine px_PW.callV kt_60.2 rfl rfl rfl rfl (cc_error (N := N) hw.2.2.1 1 (by decide)) (by decide) (fun v h1 q => ?_)
    obtain ⟨rfl, rfl⟩ := q
    refine px_PW.ret kt_60.2 rfl rfl ?_
    have E : s_lawB Z N F use a b c = (-1000000000 - 1) := rfl
    rw [E]
    exact ⟨rfl, _, _, _, px_sc.err, rfl⟩
  · have c0 : use = 0 ∨ use = 1 := px_b1n (of_decide_eq_false c0)
    exact absurd c0 hu
end
