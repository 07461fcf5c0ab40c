/-! part 18.pw -/
section
/-! RUNS OF THE PURE MACHINE, with how deep and how long left out -/
/-- method j, with these arguments over this heap, answers and leaves a heap, as Q says; d calls deep at most -/
def px_PM (d j : Nat) (as : List Value) (h : px_H) (Q : Option Value → px_H → Prop) : Prop := ∃ (n : Nat) (v : Option Value) (h' : px_H), px_run px_codes d n j as h = some (v, h') ∧ Q v h'
/-- from a place of a code on -/
def px_PW (d : Nat) (code : Nat → Option px_A) (Q : Option Value → px_H → Prop) (pc : Nat) (lv : px_L) (st : List Value) (h : px_H) : Prop := ∃ (n : Nat) (v : Option Value) (h' : px_H), px_loop (px_run px_codes d n) code n pc lv st h = some (v, h') ∧ Q v h'
theorem px_mono {d d' n n' j : Nat} {as : List Value} {h : px_H} {v : Option Value} {h' : px_H} (hd : d ≤ d') (hn : n ≤ n') (hr : px_run px_codes d n j as h = some (v, h')) : px_run px_codes d' n' j as h = some (v, h') :=
  (px_codes_fr none [] hd hn j as h v h' trivial hr).1
theorem px_PM.mono {d d' j : Nat} {as : List Value} {h : px_H} {Q Q' : Option Value → px_H → Prop} (hp : px_PM d j as h Q) (hd : d ≤ d') (hQ : ∀ v h', Q v h' → Q' v h') : px_PM d' j as h Q' := by
  obtain ⟨n, v, h', h1, h2⟩ := hp
  exact ⟨n, v, h', px_mono hd (Nat.le_refl n) h1, hQ v h' h2⟩
/-- over the class half alone: then over any other half -/
theorem px_PM.left {d j : Nat} {as : List Value} {C : List va_E} {Q : Option Value → List va_E → Prop} (M : List va_E) (hp : px_PM d j as (C, []) (fun v h' => Q v h'.1)) : px_PM d j as (C, M) (fun v h' => Q v h'.1 ∧ h'.2 = M) := by
  obtain ⟨n, v, h', h1, h2⟩ := hp
  exact ⟨n, v, (h'.1, M), (px_codes_fr (some true) M (Nat.le_refl d) (Nat.le_refl n) j as (C, []) v h' rfl h1).1, h2, rfl⟩
theorem px_PM.right {d j : Nat} {as : List Value} {M : List va_E} {Q : Option Value → List va_E → Prop} (C : List va_E) (hp : px_PM d j as ([], M) (fun v h' => Q v h'.2)) : px_PM d j as (C, M) (fun v h' => Q v h'.2 ∧ h'.1 = C) := by
  obtain ⟨n, v, h', h1, h2⟩ := hp
  exact ⟨n, v, (C, h'.2), (px_codes_fr (some false) C (Nat.le_refl d) (Nat.le_refl n) j as ([], M) v h' rfl h1).1, h2, rfl⟩
theorem px_PM.of_ans {d n j : Nat} {as : List Value} {h : px_H} {x : Int32} (hr : px_ans d n j as h = some x) : px_PM d j as h (fun v _ => v = some (.int x)) := by
  unfold px_ans at hr
  split at hr
  · next x' h' hx => cases hr; exact ⟨n, _, _, hx, rfl⟩
  · cases hr
theorem px_PM.start {d j nL : Nat} {code : Nat → Option px_A} {as : List Value} {h : px_H} {Q : Option Value → px_H → Prop} (hc : px_codes j = some (nL, code)) (ha : Nat.ble (px_cat as) nL = true) (k : px_PW d code Q 0 (px_args nL as) [] h) : px_PM (d + 1) j as h Q := by
  obtain ⟨n, v, h', h1, h2⟩ := k
  refine ⟨n, v, h', ?_, h2⟩
  unfold px_run
  rw [hc]
  dsimp only
  rw [ha]
  exact h1
/-- k steps without a call -/
def px_nocall : px_C := fun _ _ _ => none
def px_steps (code : Nat → Option px_A) : Nat → Nat → px_L → List Value → px_H → Option (Nat × px_L × List Value × px_H)
  | 0, pc, lv, st, h => some (pc, lv, st, h)
  | k + 1, pc, lv, st, h => match code pc with
    | none => none
    | some act => match act px_nocall pc lv st h with
      | some (.inl (pc', lv', st', h')) => px_steps code k pc' lv' st' h'
      | _ => none
theorem px_act_mono {code : Nat → Option px_A} (hT : px_frT code) {pc : Nat} {act : px_A} (hc : code pc = some act) {cb cb' : px_C} (hcb : ∀ j as h r, cb j as h = some r → cb' j as h = some r) {lv : px_L} {st : List Value} {h : px_H} {r : px_N} (hr : act cb pc lv st h = some r) : act cb' pc lv st h = some r := by
  have h1 := (hT pc act hc none [] cb cb' (fun j as h v h' _ q => ⟨hcb j as h (v, h') q, trivial⟩) pc lv st h r trivial hr).1
  have e : px_lfN none [] r = r := by rcases r with ⟨a, b, c, d⟩ | ⟨a, b⟩ <;> rfl
  rw [e] at h1
  exact h1
theorem px_PW.one {d : Nat} {code : Nat → Option px_A} {Q : Option Value → px_H → Prop} {pc pc' : Nat} {lv lv' : px_L} {st st' : List Value} {h h' : px_H} {act : px_A} (hc : code pc = some act) (hs : ∀ n, act (px_run px_codes d n) pc lv st h = some (.inl (pc', lv', st', h'))) (k : px_PW d code Q pc' lv' st' h') (hT : px_frT code) : px_PW d code Q pc lv st h := by
  obtain ⟨n, v, h1, e1, e2⟩ := k
  refine ⟨n + 1, v, h1, ?_, e2⟩
  unfold px_loop
  rw [hc]
  dsimp only
  rw [hs (n + 1)]
  exact (px_fr_loop (b := none) (X := []) hT (px_codes_fr none [] (Nat.le_refl d) (Nat.le_succ n)) n n pc' lv' st' h' v h1 (Nat.le_refl n) trivial e1).1
theorem px_PW.steps {d : Nat} {code : Nat → Option px_A} (hT : px_frT code) {Q : Option Value → px_H → Prop} : ∀ (k : Nat) {pc pc' : Nat} {lv lv' : px_L} {st st' : List Value} {h h' : px_H}, px_steps code k pc lv st h = some (pc', lv', st', h') → px_PW d code Q pc' lv' st' h' → px_PW d code Q pc lv st h
  | 0, _, _, _, _, _, _, _, _, hs, k => by cases hs; exact k
  | m + 1, pc, pc', lv, lv', st, st', h, h', hs, k => by
    unfold px_steps at hs
    split at hs
    · cases hs
    · next act hact =>
      split at hs
      · next pc1 lv1 st1 h1 ha =>
        exact px_PW.one hact (fun n => px_act_mono hT hact (fun j as h r q => by cases q) ha) (px_PW.steps hT m hs k) hT
      · cases hs
theorem px_PW.ret {d : Nat} {code : Nat → Option px_A} (hT : px_frT code) {Q : Option Value → px_H → Prop} {pc : Nat} {lv : px_L} {st : List Value} {h h' : px_H} {v : Option Value} {act : px_A} (hc : code pc = some act) (ha : act px_nocall pc lv st h = some (.inr (v, h'))) (hQ : Q v h') : px_PW d code Q pc lv st h := by
  refine ⟨1, v, h', ?_, hQ⟩
  unfold px_loop
  rw [hc]
  dsimp only
  rw [px_act_mono hT hc (fun j as h r q => by cases q) ha]
theorem px_PW.br {d : Nat} {code : Nat → Option px_A} {Q : Option Value → px_H → Prop} {b : Bool} {t e : Nat} {lv : px_L} {st : List Value} {h : px_H} (ht : b = true → px_PW d code Q t lv st h) (hf : b = false → px_PW d code Q e lv st h) : px_PW d code Q (cond b t e) lv st h := by
  cases b with
  | true => exact ht rfl
  | false => exact hf rfl
/-- a call of which one knows what it does -/
theorem px_PW.callV {d d1 : Nat} {code : Nat → Option px_A} (hT : px_frT code) {Q Q1 : Option Value → px_H → Prop} {pc j m ci b : Nat} {as rest : List Value} {lv : px_L} {st : List Value} {h : px_H} (hc : code pc = some (px_callV j m ci)) (hp : px_pop (m + 1) st [] = some (.ref b :: as, rest)) (hO : px_isO h b ci = true) (h8 : Nat.ble (px_cat rest) 8 = true) (hM : px_PM d1 j (.ref b :: as) h Q1) (hd : d1 ≤ d)
    (k : ∀ v h1, Q1 v h1 → px_PW d code Q (pc + 3) lv (px_tl v rest) h1) : px_PW d code Q pc lv st h := by
  obtain ⟨n1, v1, h1, e1, q1⟩ := hM
  obtain ⟨n, v, h2, e2, q2⟩ := k v1 h1 q1
  refine ⟨max n1 n + 1, v, h2, ?_, q2⟩
  unfold px_loop
  rw [hc]
  dsimp only
  have e3 : px_callV j m ci (px_run px_codes d (max n1 n + 1)) pc lv st h = some (.inl (pc + 3, lv, px_tl v1 rest, h1)) := by
    unfold px_callV
    rw [hp]
    dsimp only
    rw [hO, h8, px_mono hd (show n1 ≤ max n1 n + 1 by omega) e1]
    rfl
  rw [e3]
  exact (px_fr_loop (b := none) (X := []) hT (px_codes_fr none [] (Nat.le_refl d) (show n ≤ max n1 n + 1 by omega)) n (max n1 n) (pc + 3) lv (px_tl v1 rest) h1 v h2 (by omega) trivial e2).1
theorem px_PW.callS {d d1 : Nat} {code : Nat → Option px_A} (hT : px_frT code) {Q Q1 : Option Value → px_H → Prop} {pc j m : Nat} {as rest : List Value} {lv : px_L} {st : List Value} {h : px_H} (hc : code pc = some (px_callS j m)) (hp : px_pop m st [] = some (as, rest)) (h8 : Nat.ble (px_cat rest) 8 = true) (hM : px_PM d1 j as h Q1) (hd : d1 ≤ d)
    (k : ∀ v h1, Q1 v h1 → px_PW d code Q (pc + 3) lv (px_tl v rest) h1) : px_PW d code Q pc lv st h := by
  obtain ⟨n1, v1, h1, e1, q1⟩ := hM
  obtain ⟨n, v, h2, e2, q2⟩ := k v1 h1 q1
  refine ⟨max n1 n + 1, v, h2, ?_, q2⟩
  unfold px_loop
  rw [hc]
  dsimp only
  have e3 : px_callS j m (px_run px_codes d (max n1 n + 1)) pc lv st h = some (.inl (pc + 3, lv, px_tl v1 rest, h1)) := by
    unfold px_callS
    rw [hp]
    dsimp only
    rw [h8, px_mono hd (show n1 ≤ max n1 n + 1 by omega) e1]
    rfl
  rw [e3]
  exact (px_fr_loop (b := none) (X := []) hT (px_codes_fr none [] (Nat.le_refl d) (show n ≤ max n1 n + 1 by omega)) n (max n1 n) (pc + 3) lv (px_tl v1 rest) h1 v h2 (by omega) trivial e2).1
end
/-! part 19.pw2 -/
section
/-- k steps, calls by a callback -/
def px_stepsG (cb : px_C) (code : Nat → Option px_A) : Nat → Nat → px_L → List Value → px_H → Option (Nat × px_L × List Value × px_H)
  | 0, pc, lv, st, h => some (pc, lv, st, h)
  | k + 1, pc, lv, st, h => match code pc with
    | none => none
    | some act => match act cb pc lv st h with
      | some (.inl (pc', lv', st', h')) => px_stepsG cb code k pc' lv' st' h'
      | _ => none
theorem px_PW.oneG {d d0 n0 : Nat} {code : Nat → Option px_A} {Q : Option Value → px_H → Prop} {pc pc' : Nat} {lv lv' : px_L} {st st' : List Value} {h h' : px_H} {act : px_A} (hd : d0 ≤ d) (hc : code pc = some act) (hs : act (px_run px_codes d0 n0) pc lv st h = some (.inl (pc', lv', st', h'))) (k : px_PW d code Q pc' lv' st' h') (hT : px_frT code) : px_PW d code Q pc lv st h := by
  obtain ⟨n, v, h1, e1, e2⟩ := k
  refine ⟨max n0 n + 1, v, h1, ?_, e2⟩
  unfold px_loop
  rw [hc]
  dsimp only
  rw [px_act_mono hT hc (cb' := px_run px_codes d (max n0 n + 1)) (fun j as h r q => px_mono hd (show n0 ≤ max n0 n + 1 by omega) q) hs]
  exact (px_fr_loop (b := none) (X := []) hT (px_codes_fr none [] (Nat.le_refl d) (show n ≤ max n0 n + 1 by omega)) n (max n0 n) pc' lv' st' h' v h1 (by omega) trivial e1).1
theorem px_PW.stepsG {d d0 n0 : Nat} {code : Nat → Option px_A} (hd : d0 ≤ d) (hT : px_frT code) {Q : Option Value → px_H → Prop} : ∀ (k : Nat) {pc pc' : Nat} {lv lv' : px_L} {st st' : List Value} {h h' : px_H}, px_stepsG (px_run px_codes d0 n0) code k pc lv st h = some (pc', lv', st', h') → px_PW d code Q pc' lv' st' h' → px_PW d code Q pc lv st h
  | 0, _, _, _, _, _, _, _, _, hs, k => by cases hs; exact k
  | m + 1, pc, pc', lv, lv', st, st', h, h', hs, k => by
    unfold px_stepsG at hs
    split at hs
    · cases hs
    · next act hact =>
      split at hs
      · next pc1 lv1 st1 h1 ha => exact px_PW.oneG hd hact ha (px_PW.stepsG hd hT m hs k) hT
      · cases hs
theorem px_PW.ald {d : Nat} {code : Nat → Option px_A} (hT : px_frT code) {Q : Option Value → px_H → Prop} {pc a n : Nat} {i : Int32} {f : Nat → Int32} {lv : px_L} {r : List Value} {h : px_H} (hc : code pc = some px_iald) (ha : px_arr h a = some (n, f)) (hi : px_inb i n = true) (k : px_PW d code Q (pc + 1) lv (.int (f i.toNatClampNeg) :: r) h) : px_PW d code Q pc lv (.int i :: .ref a :: r) h := by
  refine px_PW.one hc (fun m => ?_) k hT
  unfold px_iald
  dsimp only
  rw [ha]
  dsimp only
  rw [hi]
  rfl
theorem px_PW.ast {d : Nat} {code : Nat → Option px_A} (hT : px_frT code) {Q : Option Value → px_H → Prop} {pc a n : Nat} {i x : Int32} {f : Nat → Int32} {lv : px_L} {r : List Value} {h : px_H} (hc : code pc = some px_iast) (ha : px_arr h a = some (n, f)) (hi : px_inb i n = true) (k : px_PW d code Q (pc + 1) lv r (px_put h a (.inl (0, n, .inl (upd f i.toNatClampNeg x))))) : px_PW d code Q pc lv (.int x :: .int i :: .ref a :: r) h := by
  refine px_PW.one hc (fun m => ?_) k hT
  unfold px_iast
  dsimp only
  rw [ha]
  dsimp only
  rw [hi]
  rfl
theorem px_PW.bin0 {d : Nat} {code : Nat → Option px_A} (hT : px_frT code) {Q : Option Value → px_H → Prop} {pc : Nat} {f : Int32 → Int32 → Int32} {x y : Int32} {lv : px_L} {r : List Value} {h : px_H} (hc : code pc = some (px_bin0 f)) (hy : ¬ y = 0) (k : px_PW d code Q (pc + 1) lv (.int (f x y) :: r) h) : px_PW d code Q pc lv (.int y :: .int x :: r) h := by
  refine px_PW.one hc (fun m => ?_) k hT
  unfold px_bin0
  dsimp only
  rw [decide_eq_false hy]
  rfl
theorem px_inb_of {i n : Int32} {L : Nat} (h0 : 0 ≤ i) (h1 : i < n) (h2 : n.toInt ≤ L) : px_inb i L = true := by
  unfold px_inb
  rw [decide_eq_true h0, Bool.true_and, px_blt]
  rw [Int32.le_iff_toInt_le, Int32.toInt_zero] at h0
  rw [Int32.lt_iff_toInt_lt] at h1
  have e : i.toNatClampNeg = i.toInt.toNat := rfl
  omega
theorem i32_nlt {a b : Int32} (h : ¬ a < b) : b ≤ a := Int32.not_lt.mp h
theorem i32_nle {a b : Int32} (h : ¬ a ≤ b) : b < a := Int32.not_le.mp h
theorem cm_117 (v lo hi : Int32) (h : px_H) : px_PM 1 117 [.int v, .int lo, .int hi] h (fun r h' => r = some (.int (if lo ≤ v ∧ v ≤ hi then 1 else 0)) ∧ h' = h) := by
  refine px_PM.start (nL := 3) (code := pc_117) rfl rfl ?_
  refine px_PW.steps kt_117.2 3 rfl ?_
  refine px_PW.br (fun c0 => ?_) (fun c0 => ?_)
  · have c0 := of_decide_eq_true c0
    refine px_PW.steps kt_117.2 1 rfl ?_
    refine px_PW.ret kt_117.2 rfl rfl ?_
    exact ⟨by rw [if_neg (fun q => absurd q.1 (Int32.not_le.mpr c0))], rfl⟩
  · have c0 := i32_nlt (of_decide_eq_false c0)
    refine px_PW.steps kt_117.2 3 rfl ?_
    refine px_PW.br (fun c1 => ?_) (fun c1 => ?_)
    · have c1 := of_decide_eq_true c1
      refine px_PW.steps kt_117.2 1 rfl ?_
      refine px_PW.ret kt_117.2 rfl rfl ?_
      exact ⟨by rw [if_neg (fun q => absurd q.2 (Int32.not_le.mpr c1))], rfl⟩
    · have c1 := i32_nlt (of_decide_eq_false c1)
      refine px_PW.steps kt_117.2 2 rfl ?_
      refine px_PW.ret kt_117.2 rfl rfl ?_
      exact ⟨by rw [if_pos ⟨c0, c1⟩], rfl⟩
def px_Ol : List Nat := [2, 4, 6, 8, 10, 12, 14, 16, 18, 21, 23, 25, 27, 29, 31, 33, 35, 37, 39, 43, 46, 49, 52, 56, 58, 61, 64]
def px_O (q : Nat) : Nat := px_Ol.getD q 0
def px_liml : List Nat := [7, 6, 6, 6, 6, 60, 60, 60, 24, 7, 6, 6, 6, 6, 60, 60, 60, 24, 7, 24, 24, 24, 24, 60, 60, 60, 30]
def px_lim (q : Nat) : Nat := px_liml.getD q 0
theorem ch_obj {Z N : Nat → Int32} {F : Nat → Nat → Int32} {q : Nat} (hq : q < 27) : px_cell (px_CH Z N F, []) (px_O q) = some (.inr (1, [.ref (px_O q + 1), .int (N q)])) := by
  match q, hq with
  | 0, _ => rfl
  | 1, _ => rfl
  | 2, _ => rfl
  | 3, _ => rfl
  | 4, _ => rfl
  | 5, _ => rfl
  | 6, _ => rfl
  | 7, _ => rfl
  | 8, _ => rfl
  | 9, _ => rfl
  | 10, _ => rfl
  | 11, _ => rfl
  | 12, _ => rfl
  | 13, _ => rfl
  | 14, _ => rfl
  | 15, _ => rfl
  | 16, _ => rfl
  | 17, _ => rfl
  | 18, _ => rfl
  | 19, _ => rfl
  | 20, _ => rfl
  | 21, _ => rfl
  | 22, _ => rfl
  | 23, _ => rfl
  | 24, _ => rfl
  | 25, _ => rfl
  | 26, _ => rfl
  | q + 27, h => exact absurd h (by omega)
theorem ch_arr {Z N : Nat → Int32} {F : Nat → Nat → Int32} {q : Nat} (hq : q < 27) : px_arr (px_CH Z N F, []) (px_O q + 1) = some (px_lim q, F q) := by
  match q, hq with
  | 0, _ => rfl
  | 1, _ => rfl
  | 2, _ => rfl
  | 3, _ => rfl
  | 4, _ => rfl
  | 5, _ => rfl
  | 6, _ => rfl
  | 7, _ => rfl
  | 8, _ => rfl
  | 9, _ => rfl
  | 10, _ => rfl
  | 11, _ => rfl
  | 12, _ => rfl
  | 13, _ => rfl
  | 14, _ => rfl
  | 15, _ => rfl
  | 16, _ => rfl
  | 17, _ => rfl
  | 18, _ => rfl
  | 19, _ => rfl
  | 20, _ => rfl
  | 21, _ => rfl
  | 22, _ => rfl
  | 23, _ => rfl
  | 24, _ => rfl
  | 25, _ => rfl
  | 26, _ => rfl
  | q + 27, h => exact absurd h (by omega)
theorem ch_putN {Z N : Nat → Int32} {F : Nat → Nat → Int32} {q : Nat} (hq : q < 27) (v : Int32) : px_put (px_CH Z N F, []) (px_O q) (.inr (1, [.ref (px_O q + 1), .int v])) = (px_CH Z (upd N q v) F, []) := by
  match q, hq with
  | 0, _ => rfl
  | 1, _ => rfl
  | 2, _ => rfl
  | 3, _ => rfl
  | 4, _ => rfl
  | 5, _ => rfl
  | 6, _ => rfl
  | 7, _ => rfl
  | 8, _ => rfl
  | 9, _ => rfl
  | 10, _ => rfl
  | 11, _ => rfl
  | 12, _ => rfl
  | 13, _ => rfl
  | 14, _ => rfl
  | 15, _ => rfl
  | 16, _ => rfl
  | 17, _ => rfl
  | 18, _ => rfl
  | 19, _ => rfl
  | 20, _ => rfl
  | 21, _ => rfl
  | 22, _ => rfl
  | 23, _ => rfl
  | 24, _ => rfl
  | 25, _ => rfl
  | 26, _ => rfl
  | q + 27, h => exact absurd h (by omega)
theorem ch_putF {Z N : Nat → Int32} {F : Nat → Nat → Int32} {q : Nat} (hq : q < 27) (f : Nat → Int32) : px_put (px_CH Z N F, []) (px_O q + 1) (.inl (0, px_lim q, .inl f)) = (px_CH Z N (va_up F q f), []) := by
  match q, hq with
  | 0, _ => rfl
  | 1, _ => rfl
  | 2, _ => rfl
  | 3, _ => rfl
  | 4, _ => rfl
  | 5, _ => rfl
  | 6, _ => rfl
  | 7, _ => rfl
  | 8, _ => rfl
  | 9, _ => rfl
  | 10, _ => rfl
  | 11, _ => rfl
  | 12, _ => rfl
  | 13, _ => rfl
  | 14, _ => rfl
  | 15, _ => rfl
  | 16, _ => rfl
  | 17, _ => rfl
  | 18, _ => rfl
  | 19, _ => rfl
  | 20, _ => rfl
  | 21, _ => rfl
  | 22, _ => rfl
  | 23, _ => rfl
  | 24, _ => rfl
  | 25, _ => rfl
  | 26, _ => rfl
  | q + 27, h => exact absurd h (by omega)
theorem px_nt {b : Bool} (h : (!b) = true) : b = false := by cases b <;> first | rfl | cases h
theorem px_nf {b : Bool} (h : (!b) = false) : b = true := by cases b <;> first | rfl | cases h
theorem px_PW.getf {d : Nat} {code : Nat → Option px_A} (hT : px_frT code) {Q : Option Value → px_H → Prop} {pc a ci k : Nat} {fs : List Value} {v : Value} {lv : px_L} {r : List Value} {h : px_H} (hc : code pc = some (px_getf ci k)) (hcell : px_cell h a = some (.inr (ci, fs))) (hv : px_nth fs k = some v) (kk : px_PW d code Q (pc + 3) lv (v :: r) h) : px_PW d code Q pc lv (.ref a :: r) h := by
  refine px_PW.one hc (fun m => ?_) kk hT
  unfold px_getf
  dsimp only
  rw [hcell]
  dsimp only
  rw [Nat.beq_refl, hv]
  rfl
theorem px_PW.putf {d : Nat} {code : Nat → Option px_A} (hT : px_frT code) {Q : Option Value → px_H → Prop} {z : Bool} {pc a ci k : Nat} {fs : List Value} {x : Int32} {lv : px_L} {r : List Value} {h : px_H} (hc : code pc = some (px_putf z ci k)) (hcell : px_cell h a = some (.inr (ci, fs))) (hk : (Nat.blt k fs.length && (z || x == 0 || x == 1)) = true) (kk : px_PW d code Q (pc + 3) lv r (px_put h a (.inr (ci, px_stn fs k (.int x))))) : px_PW d code Q pc lv (.int x :: .ref a :: r) h := by
  refine px_PW.one hc (fun m => ?_) kk hT
  unfold px_putf
  dsimp only
  rw [hcell]
  dsimp only
  rw [Nat.beq_refl, Bool.true_and, hk]
  rfl
theorem px_PW.alen {d : Nat} {code : Nat → Option px_A} (hT : px_frT code) {Q : Option Value → px_H → Prop} {pc a n : Nat} {f : Nat → Int32} {lv : px_L} {r : List Value} {h : px_H} (hc : code pc = some px_alen) (ha : px_arr h a = some (n, f)) (kk : px_PW d code Q (pc + 1) lv (.int (Int32.ofNat n) :: r) h) : px_PW d code Q pc lv (.ref a :: r) h := by
  refine px_PW.one hc (fun m => ?_) kk hT
  unfold px_alen
  dsimp only
  rw [px_arr_r ha]
  rfl
end
/-! part 20.nums -/
section
theorem px_upd_self (f : Nat → Int32) (k : Nat) (x : Int32) : upd f k x k = x := by simp [upd]
theorem px_up_self {α : Type} (f : Nat → α) (k : Nat) (x : α) : va_up f k x k = x := by simp [va_up]
theorem px_lim_i {q : Nat} (hq : q < 27) : (Int32.ofNat (px_lim q)).toInt = (px_lim q : Int) ∧ px_lim q ≤ 60 := by
  match q, hq with
  | 0, _ => exact ⟨by decide +kernel, by decide +kernel⟩
  | 1, _ => exact ⟨by decide +kernel, by decide +kernel⟩
  | 2, _ => exact ⟨by decide +kernel, by decide +kernel⟩
  | 3, _ => exact ⟨by decide +kernel, by decide +kernel⟩
  | 4, _ => exact ⟨by decide +kernel, by decide +kernel⟩
  | 5, _ => exact ⟨by decide +kernel, by decide +kernel⟩
  | 6, _ => exact ⟨by decide +kernel, by decide +kernel⟩
  | 7, _ => exact ⟨by decide +kernel, by decide +kernel⟩
  | 8, _ => exact ⟨by decide +kernel, by decide +kernel⟩
  | 9, _ => exact ⟨by decide +kernel, by decide +kernel⟩
  | 10, _ => exact ⟨by decide +kernel, by decide +kernel⟩
  | 11, _ => exact ⟨by decide +kernel, by decide +kernel⟩
  | 12, _ => exact ⟨by decide +kernel, by decide +kernel⟩
  | 13, _ => exact ⟨by decide +kernel, by decide +kernel⟩
  | 14, _ => exact ⟨by decide +kernel, by decide +kernel⟩
  | 15, _ => exact ⟨by decide +kernel, by decide +kernel⟩
  | 16, _ => exact ⟨by decide +kernel, by decide +kernel⟩
  | 17, _ => exact ⟨by decide +kernel, by decide +kernel⟩
  | 18, _ => exact ⟨by decide +kernel, by decide +kernel⟩
  | 19, _ => exact ⟨by decide +kernel, by decide +kernel⟩
  | 20, _ => exact ⟨by decide +kernel, by decide +kernel⟩
  | 21, _ => exact ⟨by decide +kernel, by decide +kernel⟩
  | 22, _ => exact ⟨by decide +kernel, by decide +kernel⟩
  | 23, _ => exact ⟨by decide +kernel, by decide +kernel⟩
  | 24, _ => exact ⟨by decide +kernel, by decide +kernel⟩
  | 25, _ => exact ⟨by decide +kernel, by decide +kernel⟩
  | 26, _ => exact ⟨by decide +kernel, by decide +kernel⟩
  | q + 27, h => exact absurd h (by omega)
theorem px_dec_ge {n : Int32} (h : 1 ≤ n) : 0 ≤ n - 1 ∧ n - 1 < n := by
  rw [Int32.le_iff_toInt_le] at h
  have h1 : (1 : Int32).toInt = 1 := by decide +kernel
  have e : (n - 1).toInt = n.toInt - 1 := by
    rw [Int32.toInt_sub, h1]
    have h2 := Int32.toInt_lt n
    have h3 := Int32.le_toInt n
    exact Int.bmod_eq_of_le (by omega) (by omega)
  refine ⟨?_, ?_⟩
  · rw [Int32.le_iff_toInt_le, e, Int32.toInt_zero]; omega
  · rw [Int32.lt_iff_toInt_lt, e]; omega
theorem nb_size {Z N : Nat → Int32} {F : Nat → Nat → Int32} {q : Nat} (hq : q < 27) : px_PM 1 2 [.ref (px_O q)] (px_CH Z N F, []) (fun r h' => r = some (.int (N q)) ∧ h' = (px_CH Z N F, [])) := by
  refine px_PM.start (nL := 1) (code := pc_2) rfl rfl ?_
  refine px_PW.steps kt_2.2 1 rfl ?_
  refine px_PW.getf kt_2.2 rfl (ch_obj hq) rfl ?_
  refine px_PW.ret kt_2.2 rfl rfl ?_
  exact ⟨by simp [*], rfl⟩
theorem nb_room {Z N : Nat → Int32} {F : Nat → Nat → Int32} {q : Nat} (hq : q < 27) : px_PM 1 3 [.ref (px_O q)] (px_CH Z N F, []) (fun r h' => r = some (.int (Int32.ofNat (px_lim q) - N q)) ∧ h' = (px_CH Z N F, [])) := by
  refine px_PM.start (nL := 1) (code := pc_3) rfl rfl ?_
  refine px_PW.steps kt_3.2 1 rfl ?_
  refine px_PW.getf kt_3.2 rfl (ch_obj hq) rfl ?_
  refine px_PW.alen kt_3.2 rfl (ch_arr hq) ?_
  refine px_PW.steps kt_3.2 1 rfl ?_
  refine px_PW.getf kt_3.2 rfl (ch_obj hq) rfl ?_
  refine px_PW.steps kt_3.2 1 rfl ?_
  refine px_PW.ret kt_3.2 rfl rfl ?_
  exact ⟨by simp [*], rfl⟩
theorem nb_stands {Z N : Nat → Int32} {F : Nat → Nat → Int32} {q : Nat} (hq : q < 27) (i : Int32) : px_PM 1 4 [.ref (px_O q), .int i] (px_CH Z N F, []) (fun r h' => r = some (.int (if i < 0 ∨ N q ≤ i then 0 else 1)) ∧ h' = (px_CH Z N F, [])) := by
  refine px_PM.start (nL := 2) (code := pc_4) rfl rfl ?_
  refine px_PW.steps kt_4.2 2 rfl ?_
  refine px_PW.br (fun c0 => ?_) (fun c0 => ?_)
  · have c0 := of_decide_eq_true c0
    refine px_PW.steps kt_4.2 1 rfl ?_
    refine px_PW.ret kt_4.2 rfl rfl ?_
    exact ⟨by simp [*], rfl⟩
  · have c0 := of_decide_eq_false c0
    refine px_PW.steps kt_4.2 2 rfl ?_
    refine px_PW.getf kt_4.2 rfl (ch_obj hq) rfl ?_
    refine px_PW.steps kt_4.2 1 rfl ?_
    refine px_PW.br (fun c1 => ?_) (fun c1 => ?_)
    · have c1 := of_decide_eq_true c1
      refine px_PW.steps kt_4.2 1 rfl ?_
      refine px_PW.ret kt_4.2 rfl rfl ?_
      exact ⟨by simp [*], rfl⟩
    · have c1 := of_decide_eq_false c1
      refine px_PW.steps kt_4.2 2 rfl ?_
      refine px_PW.ret kt_4.2 rfl rfl ?_
      exact ⟨by simp [*], rfl⟩
theorem nb_stretches {Z N : Nat → Int32} {F : Nat → Nat → Int32} {q : Nat} (hq : q < 27) (i n : Int32) : px_PM 1 5 [.ref (px_O q), .int i, .int n] (px_CH Z N F, []) (fun r h' => r = some (.int (if i < 0 ∨ n < 0 ∨ N q < n ∨ N q - n < i then 0 else 1)) ∧ h' = (px_CH Z N F, [])) := by
  refine px_PM.start (nL := 3) (code := pc_5) rfl rfl ?_
  refine px_PW.steps kt_5.2 2 rfl ?_
  refine px_PW.br (fun c0 => ?_) (fun c0 => ?_)
  · have c0 := of_decide_eq_true c0
    refine px_PW.steps kt_5.2 1 rfl ?_
    refine px_PW.ret kt_5.2 rfl rfl ?_
    exact ⟨by simp [*], rfl⟩
  · have c0 := of_decide_eq_false c0
    refine px_PW.steps kt_5.2 2 rfl ?_
    refine px_PW.br (fun c1 => ?_) (fun c1 => ?_)
    · have c1 := of_decide_eq_true c1
      refine px_PW.steps kt_5.2 1 rfl ?_
      refine px_PW.ret kt_5.2 rfl rfl ?_
      exact ⟨by simp [*], rfl⟩
    · have c1 := of_decide_eq_false c1
      refine px_PW.steps kt_5.2 2 rfl ?_
      refine px_PW.getf kt_5.2 rfl (ch_obj hq) rfl ?_
      refine px_PW.steps kt_5.2 1 rfl ?_
      refine px_PW.br (fun c2 => ?_) (fun c2 => ?_)
      · have c2 := of_decide_eq_true c2
        refine px_PW.steps kt_5.2 1 rfl ?_
        refine px_PW.ret kt_5.2 rfl rfl ?_
        exact ⟨by simp [*], rfl⟩
      · have c2 := of_decide_eq_false c2
        refine px_PW.steps kt_5.2 2 rfl ?_
        refine px_PW.getf kt_5.2 rfl (ch_obj hq) rfl ?_
        refine px_PW.steps kt_5.2 3 rfl ?_
        refine px_PW.br (fun c3 => ?_) (fun c3 => ?_)
        · have c3 := of_decide_eq_true c3
          refine px_PW.steps kt_5.2 1 rfl ?_
          refine px_PW.ret kt_5.2 rfl rfl ?_
          exact ⟨by simp [*], rfl⟩
        · have c3 := of_decide_eq_false c3
          refine px_PW.steps kt_5.2 2 rfl ?_
          refine px_PW.ret kt_5.2 rfl rfl ?_
          exact ⟨by simp [*], rfl⟩
theorem nb_get {Z N : Nat → Int32} {F : Nat → Nat → Int32} {q : Nat} (hq : q < 27) (i : Int32) (hl : (N q).toInt ≤ px_lim q) : px_PM 1 6 [.ref (px_O q), .int i] (px_CH Z N F, []) (fun r h' => r = some (.int (if i < 0 ∨ N q ≤ i then 0 else F q i.toNatClampNeg)) ∧ h' = (px_CH Z N F, [])) := by
  refine px_PM.start (nL := 2) (code := pc_6) rfl rfl ?_
  refine px_PW.steps kt_6.2 2 rfl ?_
  refine px_PW.br (fun c0 => ?_) (fun c0 => ?_)
  · have c0 := of_decide_eq_true c0
    refine px_PW.steps kt_6.2 1 rfl ?_
    refine px_PW.ret kt_6.2 rfl rfl ?_
    exact ⟨by simp [*], rfl⟩
  · have c0 := of_decide_eq_false c0
    refine px_PW.steps kt_6.2 2 rfl ?_
    refine px_PW.getf kt_6.2 rfl (ch_obj hq) rfl ?_
    refine px_PW.steps kt_6.2 1 rfl ?_
    refine px_PW.br (fun c1 => ?_) (fun c1 => ?_)
    · have c1 := of_decide_eq_true c1
      refine px_PW.steps kt_6.2 1 rfl ?_
      refine px_PW.ret kt_6.2 rfl rfl ?_
      exact ⟨by simp [*], rfl⟩
    · have c1 := of_decide_eq_false c1
      refine px_PW.steps kt_6.2 1 rfl ?_
      refine px_PW.getf kt_6.2 rfl (ch_obj hq) rfl ?_
      refine px_PW.steps kt_6.2 1 rfl ?_
      refine px_PW.ald kt_6.2 rfl (ch_arr hq) (px_inb_of (i32_nlt c0) (i32_nle c1) hl) ?_
      refine px_PW.steps kt_6.2 1 rfl ?_
      refine px_PW.ret kt_6.2 rfl rfl ?_
      exact ⟨by simp [*], rfl⟩
theorem nb_set {Z N : Nat → Int32} {F : Nat → Nat → Int32} {q : Nat} (hq : q < 27) (i v : Int32) (hl : (N q).toInt ≤ px_lim q) : px_PM 1 7 [.ref (px_O q), .int i, .int v] (px_CH Z N F, []) (fun r h' => r = none ∧ h' = (px_CH Z N (if i < 0 ∨ N q ≤ i then F else va_up F q (upd (F q) i.toNatClampNeg v)), [])) := by
  refine px_PM.start (nL := 3) (code := pc_7) rfl rfl ?_
  refine px_PW.steps kt_7.2 2 rfl ?_
  refine px_PW.br (fun c0 => ?_) (fun c0 => ?_)
  · have c0 := of_decide_eq_true c0
    refine px_PW.ret kt_7.2 rfl rfl ?_
    exact ⟨rfl, by simp [*]⟩
  · have c0 := of_decide_eq_false c0
    refine px_PW.steps kt_7.2 2 rfl ?_
    refine px_PW.getf kt_7.2 rfl (ch_obj hq) rfl ?_
    refine px_PW.steps kt_7.2 1 rfl ?_
    refine px_PW.br (fun c1 => ?_) (fun c1 => ?_)
    · have c1 := of_decide_eq_true c1
      refine px_PW.ret kt_7.2 rfl rfl ?_
      exact ⟨rfl, by simp [*]⟩
    · have c1 := of_decide_eq_false c1
      refine px_PW.steps kt_7.2 1 rfl ?_
      refine px_PW.getf kt_7.2 rfl (ch_obj hq) rfl ?_
      refine px_PW.steps kt_7.2 2 rfl ?_
      refine px_PW.ast kt_7.2 rfl (ch_arr hq) (px_inb_of (i32_nlt c0) (i32_nle c1) hl) ?_
      rw [ch_putF hq]
      refine px_PW.ret kt_7.2 rfl rfl ?_
      exact ⟨rfl, by simp [*]⟩
theorem nb_clear {Z N : Nat → Int32} {F : Nat → Nat → Int32} {q : Nat} (hq : q < 27) : px_PM 1 10 [.ref (px_O q)] (px_CH Z N F, []) (fun r h' => r = none ∧ h' = (px_CH Z (upd N q 0) F, [])) := by
  refine px_PM.start (nL := 1) (code := pc_10) rfl rfl ?_
  refine px_PW.steps kt_10.2 2 rfl ?_
  refine px_PW.putf kt_10.2 rfl (ch_obj hq) rfl ?_
  rw [show px_stn [Value.ref (px_O q + 1), Value.int _] 1 (Value.int _) = [Value.ref (px_O q + 1), Value.int _] from rfl, ch_putN hq]
  refine px_PW.ret kt_10.2 rfl rfl ?_
  exact ⟨rfl, rfl⟩
theorem nb_add {Z N : Nat → Int32} {F : Nat → Nat → Int32} {q : Nat} (hq : q < 27) (v : Int32) (h0 : 0 ≤ N q) : px_PM 1 8 [.ref (px_O q), .int v] (px_CH Z N F, []) (fun r h' => r = none ∧ h' = (px_CH Z (if Int32.ofNat (px_lim q) ≤ N q then N else upd N q (N q + 1)) (if Int32.ofNat (px_lim q) ≤ N q then F else va_up F q (upd (F q) (N q).toNatClampNeg v)), [])) := by
  refine px_PM.start (nL := 2) (code := pc_8) rfl rfl ?_
  refine px_PW.steps kt_8.2 1 rfl ?_
  refine px_PW.getf kt_8.2 rfl (ch_obj hq) rfl ?_
  refine px_PW.steps kt_8.2 1 rfl ?_
  refine px_PW.getf kt_8.2 rfl (ch_obj hq) rfl ?_
  refine px_PW.alen kt_8.2 rfl (ch_arr hq) ?_
  refine px_PW.steps kt_8.2 1 rfl ?_
  refine px_PW.br (fun c0 => ?_) (fun c0 => ?_)
  · have c0 := of_decide_eq_true c0
    refine px_PW.ret kt_8.2 rfl rfl ?_
    exact ⟨rfl, by simp [*]⟩
  · have c0 := of_decide_eq_false c0
    refine px_PW.steps kt_8.2 1 rfl ?_
    refine px_PW.getf kt_8.2 rfl (ch_obj hq) rfl ?_
    refine px_PW.steps kt_8.2 1 rfl ?_
    refine px_PW.getf kt_8.2 rfl (ch_obj hq) rfl ?_
    refine px_PW.steps kt_8.2 1 rfl ?_
    refine px_PW.ast kt_8.2 rfl (ch_arr hq) (px_inb_of h0 (i32_nle c0) (Int.le_of_eq (px_lim_i hq).1)) ?_
    rw [ch_putF hq]
    refine px_PW.steps kt_8.2 2 rfl ?_
    refine px_PW.getf kt_8.2 rfl (ch_obj hq) rfl ?_
    refine px_PW.steps kt_8.2 2 rfl ?_
    refine px_PW.putf kt_8.2 rfl (ch_obj hq) rfl ?_
    rw [show px_stn [Value.ref (px_O q + 1), Value.int _] 1 (Value.int _) = [Value.ref (px_O q + 1), Value.int _] from rfl, ch_putN hq]
    refine px_PW.ret kt_8.2 rfl rfl ?_
    exact ⟨rfl, by simp [*]⟩
theorem nb_pop {Z N : Nat → Int32} {F : Nat → Nat → Int32} {q : Nat} (hq : q < 27) (hl : (N q).toInt ≤ px_lim q) : px_PM 1 9 [.ref (px_O q)] (px_CH Z N F, []) (fun r h' => r = some (.int (if 1 ≤ N q then F q (N q - 1).toNatClampNeg else 0)) ∧ h' = (px_CH Z (if 1 ≤ N q then upd N q (N q - 1) else N) F, [])) := by
  refine px_PM.start (nL := 1) (code := pc_9) rfl rfl ?_
  refine px_PW.steps kt_9.2 1 rfl ?_
  refine px_PW.getf kt_9.2 rfl (ch_obj hq) rfl ?_
  refine px_PW.steps kt_9.2 2 rfl ?_
  refine px_PW.br (fun c0 => ?_) (fun c0 => ?_)
  · have c0 := of_decide_eq_true c0
    refine px_PW.steps kt_9.2 2 rfl ?_
    refine px_PW.getf kt_9.2 rfl (ch_obj hq) rfl ?_
    refine px_PW.steps kt_9.2 2 rfl ?_
    refine px_PW.putf kt_9.2 rfl (ch_obj hq) rfl ?_
    rw [show px_stn [Value.ref (px_O q + 1), Value.int _] 1 (Value.int _) = [Value.ref (px_O q + 1), Value.int _] from rfl, ch_putN hq]
    refine px_PW.steps kt_9.2 1 rfl ?_
    refine px_PW.getf kt_9.2 rfl (ch_obj hq) rfl ?_
    refine px_PW.steps kt_9.2 1 rfl ?_
    refine px_PW.getf kt_9.2 rfl (ch_obj hq) rfl ?_
    rw [px_upd_self]
    refine px_PW.ald kt_9.2 rfl (ch_arr hq) (px_inb_of (px_dec_ge c0).1 (px_dec_ge c0).2 hl) ?_
    refine px_PW.ret kt_9.2 rfl rfl ?_
    exact ⟨by simp [*], by simp [*]⟩
  · have c0 := of_decide_eq_false c0
    refine px_PW.steps kt_9.2 1 rfl ?_
    refine px_PW.ret kt_9.2 rfl rfl ?_
    exact ⟨by simp [*], by simp [*]⟩
/-- a row whose places from i on, k of them, are 0 -/
def px_zf (f : Nat → Int32) (i k : Nat) : Nat → Int32 := fun j => if i ≤ j ∧ j < i + k then 0 else f j
theorem px_zf_0 (f : Nat → Int32) (i : Nat) : px_zf f i 0 = f := by
  funext j
  unfold px_zf
  rw [if_neg (by omega)]
theorem px_zf_s (f : Nat → Int32) (i k : Nat) : px_zf (upd f i 0) (i + 1) k = px_zf f i (k + 1) := by
  funext j
  unfold px_zf upd
  by_cases h : j = i
  · subst h
    rw [if_neg (by omega), if_pos rfl, if_pos (by omega)]
  · rw [if_neg h]
    by_cases h2 : i + 1 ≤ j ∧ j < i + 1 + k
    · rw [if_pos h2, if_pos (by omega)]
    · rw [if_neg h2, if_neg (by omega)]
theorem px_up_id {α : Type} (F : Nat → α) (q : Nat) : va_up F q (F q) = F := by
  funext j
  unfold va_up
  split
  · next h => rw [h]
  · rfl
theorem px_up_up {α : Type} (F : Nat → α) (q : Nat) (a b : α) : va_up (va_up F q a) q b = va_up F q b := by
  funext j
  unfold va_up
  split <;> rfl
theorem px_ofn {n : Nat} (h : n < 2000000000) : (Int32.ofNat n).toInt = (n : Int) := nI_toInt (by omega)
theorem nb_fill_loop {Z N : Nat → Int32} {q : Nat} (hq : q < 27) {Q : Option Value → px_H → Prop} {n : Int32} {d : Nat} : ∀ (k i : Nat) (F : Nat → Nat → Int32), N q = Int32.ofNat (i + k) → i + k ≤ px_lim q → (px_PW d pc_11 Q 40 [some (.ref (px_O q)), some (.int n), some (.int (Int32.ofNat (i + k)))] [] (px_CH Z N (va_up F q (px_zf (F q) i k)), [])) → px_PW d pc_11 Q 19 [some (.ref (px_O q)), some (.int n), some (.int (Int32.ofNat i))] [] (px_CH Z N F, [])
  | k, i, F, hN, hle, hk => by
    have hl := (px_lim_i hq).2
    refine px_PW.steps kt_11.2 2 rfl ?_
    refine px_PW.getf kt_11.2 rfl (ch_obj hq) rfl ?_
    refine px_PW.steps kt_11.2 1 rfl ?_
    refine px_PW.br (fun c0 => ?_) (fun c0 => ?_)
    · have c0 := of_decide_eq_true c0
      rw [hN, Int32.le_iff_toInt_le, px_ofn (by omega), px_ofn (by omega)] at c0
      have e : k = 0 := by omega
      subst e
      rw [px_zf_0, px_up_id] at hk
      exact hk
    · have c0 := of_decide_eq_false c0
      rw [hN, Int32.le_iff_toInt_le, px_ofn (by omega), px_ofn (by omega)] at c0
      obtain ⟨k', rfl⟩ : ∃ k', k = k' + 1 := ⟨k - 1, by omega⟩
      refine px_PW.steps kt_11.2 1 rfl ?_
      refine px_PW.getf kt_11.2 rfl (ch_obj hq) rfl ?_
      refine px_PW.steps kt_11.2 2 rfl ?_
      refine px_PW.ast kt_11.2 rfl (ch_arr hq) (px_inb_of (n := Int32.ofNat (px_lim q)) (by rw [Int32.le_iff_toInt_le, px_ofn (by omega), Int32.toInt_zero]; omega) (by rw [Int32.lt_iff_toInt_lt, px_ofn (by omega), px_ofn (by omega)]; omega) (Int.le_of_eq (px_lim_i hq).1)) ?_
      rw [ch_putF hq]
      refine px_PW.steps kt_11.2 2 rfl ?_
      have e1 : Int32.ofNat i + 1 = Int32.ofNat (i + 1) := (nI_succ i).symm
      have e2 : (Int32.ofNat i).toNatClampNeg = i := nI_clamp (by omega)
      have g := nb_fill_loop hq (Z := Z) (N := N) (Q := Q) (n := n) (d := d) k' (i + 1) (va_up F q (upd (F q) i 0)) (by rw [hN]; congr 1; omega) (by omega) (by
        rw [px_up_self, px_zf_s, px_up_up, show i + 1 + k' = i + (k' + 1) by omega]
        exact hk)
      rw [← e1] at g
      rw [e2]
      exact g
/-- how many numbers a row of a limit has that is filled with n zeros -/
def px_fz (n : Int32) (L : Nat) : Nat := min n.toInt.toNat L
theorem px_fz_eq (n : Int32) {q : Nat} (hq : q < 27) : (if (0 : Int32) < (if Int32.ofNat (px_lim q) < n then Int32.ofNat (px_lim q) else n) then (if Int32.ofNat (px_lim q) < n then Int32.ofNat (px_lim q) else n) else 0) = Int32.ofNat (px_fz n (px_lim q)) := by
  have h1 := px_lim_i hq
  have h2 : (Int32.ofNat (px_fz n (px_lim q))).toInt = (px_fz n (px_lim q) : Int) := px_ofn (by unfold px_fz; omega)
  apply Int32.toInt_inj.mp
  rw [h2]
  unfold px_fz
  by_cases a : Int32.ofNat (px_lim q) < n
  · rw [if_pos a]
    rw [Int32.lt_iff_toInt_lt, h1.1] at a
    by_cases b : (0 : Int32) < Int32.ofNat (px_lim q)
    · rw [if_pos b, h1.1]; omega
    · rw [if_neg b]
      rw [Int32.lt_iff_toInt_lt, h1.1, Int32.toInt_zero] at b
      rw [Int32.toInt_zero]; omega
  · rw [if_neg a]
    rw [Int32.lt_iff_toInt_lt, h1.1] at a
    by_cases b : (0 : Int32) < n
    · rw [if_pos b]
      rw [Int32.lt_iff_toInt_lt, Int32.toInt_zero] at b
      omega
    · rw [if_neg b]
      rw [Int32.lt_iff_toInt_lt, Int32.toInt_zero] at b
      rw [Int32.toInt_zero]; omega
theorem nb_fill {Z N : Nat → Int32} {F : Nat → Nat → Int32} {q : Nat} (hq : q < 27) (n : Int32) : px_PM 1 11 [.ref (px_O q), .int n] (px_CH Z N F, []) (fun r h' => r = none ∧ h' = (px_CH Z (upd N q (Int32.ofNat (px_fz n (px_lim q)))) (va_up F q (px_zf (F q) 0 (px_fz n (px_lim q)))), [])) := by
  refine px_PM.start (nL := 3) (code := pc_11) rfl rfl ?_
  refine px_PW.steps kt_11.2 4 rfl ?_
  refine px_PW.getf kt_11.2 rfl (ch_obj hq) rfl ?_
  refine px_PW.alen kt_11.2 rfl (ch_arr hq) ?_
  refine px_PW.steps kt_11.2 2 rfl ?_
  refine px_PW.putf kt_11.2 rfl (ch_obj hq) rfl ?_
  rw [show ∀ x : Int32, px_stn [Value.ref (px_O q + 1), Value.int (N q)] 1 (Value.int x) = [Value.ref (px_O q + 1), Value.int x] from fun _ => rfl, ch_putN hq]
  dsimp only
  rw [px_fz_eq n hq]
  refine px_PW.steps kt_11.2 2 rfl ?_
  refine nb_fill_loop hq (px_fz n (px_lim q)) 0 F (by rw [px_upd_self, Nat.zero_add]) (by unfold px_fz; omega) ?_
  exact px_PW.ret kt_11.2 rfl rfl ⟨rfl, rfl⟩
theorem px_str_ok {i n m : Int32} {L : Nat} (h : ¬ (i < 0 ∨ n < 0 ∨ m < n ∨ m - n < i)) (hl : m.toInt ≤ L) : 0 ≤ i ∧ 0 ≤ n ∧ i.toNatClampNeg + n.toNatClampNeg ≤ L := by
  have h1 := i32_nlt (fun q => h (Or.inl q))
  have h2 := i32_nlt (fun q => h (Or.inr (Or.inl q)))
  have h3 := i32_nlt (fun q => h (Or.inr (Or.inr (Or.inl q))))
  have h4 := i32_nlt (fun q => h (Or.inr (Or.inr (Or.inr q))))
  refine ⟨h1, h2, ?_⟩
  rw [Int32.le_iff_toInt_le, Int32.toInt_zero] at h1 h2
  rw [Int32.le_iff_toInt_le] at h3 h4
  have e : (m - n).toInt = m.toInt - n.toInt := by
    rw [Int32.toInt_sub]
    have h2 := Int32.toInt_lt m
    have h3 := Int32.le_toInt m
    exact Int.bmod_eq_of_le (by omega) (by omega)
  rw [e] at h4
  have e1 : i.toNatClampNeg = i.toInt.toNat := rfl
  have e2 : n.toNatClampNeg = n.toInt.toNat := rfl
  omega
theorem ch_isO {Z N : Nat → Int32} {F : Nat → Nat → Int32} {q : Nat} (hq : q < 27) : px_isO (px_CH Z N F, []) (px_O q) 1 = true := by
  unfold px_isO
  rw [ch_obj hq]
  rfl
theorem px_PW.acopy {d : Nat} {code : Nat → Option px_A} (hT : px_frT code) {Q : Option Value → px_H → Prop} {pc a b n0 n1 : Nat} {sp dp n : Int32} {f g : Nat → Int32} {lv : px_L} {r : List Value} {h : px_H} (hc : code pc = some px_acopy) (ha : px_arr h a = some (n0, f)) (hb : px_arr h b = some (n1, g)) (h1 : 0 ≤ sp) (h2 : 0 ≤ dp) (h3 : 0 ≤ n) (h4 : sp.toNatClampNeg + n.toNatClampNeg ≤ n0) (h5 : dp.toNatClampNeg + n.toNatClampNeg ≤ n1) (h8 : Nat.ble (px_cat r) 8 = true)
    (kk : px_PW d code Q (pc + 3) lv r (px_put h b (.inl (0, n1, .inl (va_cpy f g sp.toNatClampNeg dp.toNatClampNeg n.toNatClampNeg))))) : px_PW d code Q pc lv (.int n :: .int dp :: .ref b :: .int sp :: .ref a :: r) h := by
  refine px_PW.one hc (fun m => ?_) kk hT
  unfold px_acopy
  dsimp only
  rw [ha, hb]
  dsimp only
  rw [decide_eq_true h1, decide_eq_true h2, decide_eq_true h3, Nat.ble_eq_true_of_le h4, Nat.ble_eq_true_of_le h5, h8]
  rfl
theorem nb_take {Z N : Nat → Int32} {F : Nat → Nat → Int32} {q p : Nat} (hq : q < 27) (hp : p < 27) (i j n : Int32) (hl : (N p).toInt ≤ px_lim p) (hl2 : (N q).toInt ≤ px_lim q) : px_PM 2 12 [.ref (px_O q), .ref (px_O p), .int i, .int j, .int n] (px_CH Z N F, []) (fun r h' => r = none ∧ h' = (px_CH Z N (if (i < 0 ∨ n < 0 ∨ N p < n ∨ N p - n < i) ∨ (j < 0 ∨ n < 0 ∨ N q < n ∨ N q - n < j) then F else va_up F q (va_cpy (F p) (F q) i.toNatClampNeg j.toNatClampNeg n.toNatClampNeg)), [])) := by
  refine px_PM.start (nL := 5) (code := pc_12) rfl rfl ?_
  refine px_PW.steps kt_12.2 3 rfl ?_
  refine px_PW.callV kt_12.2 rfl rfl (ch_isO hp) rfl (nb_stretches hp i n) (by decide) (fun v h1 g => ?_)
  obtain ⟨rfl, rfl⟩ := g
  by_cases c : i < 0 ∨ n < 0 ∨ N p < n ∨ N p - n < i
  · rw [if_pos c]
    refine px_PW.steps kt_12.2 1 rfl ?_
    exact px_PW.ret kt_12.2 rfl rfl ⟨rfl, by rw [if_pos (Or.inl c)]⟩
  · rw [if_neg c]
    refine px_PW.steps kt_12.2 4 rfl ?_
    refine px_PW.callV kt_12.2 rfl rfl (ch_isO hq) rfl (nb_stretches hq j n) (by decide) (fun v h1 g => ?_)
    obtain ⟨rfl, rfl⟩ := g
    by_cases c2 : j < 0 ∨ n < 0 ∨ N q < n ∨ N q - n < j
    · rw [if_pos c2]
      refine px_PW.steps kt_12.2 1 rfl ?_
      exact px_PW.ret kt_12.2 rfl rfl ⟨rfl, by rw [if_pos (Or.inr c2)]⟩
    · rw [if_neg c2]
      refine px_PW.steps kt_12.2 2 rfl ?_
      refine px_PW.getf kt_12.2 rfl (ch_obj hp) rfl ?_
      refine px_PW.steps kt_12.2 2 rfl ?_
      refine px_PW.getf kt_12.2 rfl (ch_obj hq) rfl ?_
      refine px_PW.steps kt_12.2 2 rfl ?_
      have o1 := px_str_ok c hl
      have o2 := px_str_ok c2 hl2
      refine px_PW.acopy kt_12.2 rfl (ch_arr hp) (ch_arr hq) o1.1 o2.1 o1.2.1 o1.2.2 o2.2.2 rfl ?_
      rw [ch_putF hq]
      exact px_PW.ret kt_12.2 rfl rfl ⟨rfl, by rw [if_neg (fun z => z.elim c c2)]⟩
def px_ov (f g : Nat → Int32) (n : Nat) : Nat → Int32 := fun j => if j < n then f j else g j
theorem px_cpy_ov (f g : Nat → Int32) (n : Nat) : va_cpy f (px_zf g 0 n) 0 0 n = px_ov f g n := by
  funext j
  unfold va_cpy px_zf px_ov
  by_cases h : j < n
  · rw [if_pos (by omega), if_pos h]; congr 1; omega
  · rw [if_neg (by omega), if_neg (by omega), if_neg h]
theorem px_fz_id {n : Int32} {L : Nat} (h0 : 0 ≤ n) (hl : n.toInt ≤ L) : px_fz n L = n.toNatClampNeg ∧ Int32.ofNat n.toNatClampNeg = n := by
  have e1 : n.toNatClampNeg = n.toInt.toNat := rfl
  rw [Int32.le_iff_toInt_le, Int32.toInt_zero] at h0
  refine ⟨by unfold px_fz; omega, ?_⟩
  apply Int32.toInt_inj.mp
  have h2 := Int32.toInt_lt n
  have h3 : (Int32.ofNat n.toNatClampNeg).toInt = (n.toNatClampNeg : Int) := nI_toInt (by omega)
  rw [h3]
  omega
theorem px_upd_ne (f : Nat → Int32) {k j : Nat} (x : Int32) (h : j ≠ k) : upd f k x j = f j := by simp [upd, h]
theorem px_up_ne {α : Type} (f : Nat → α) {k j : Nat} (x : α) (h : j ≠ k) : va_up f k x j = f j := by simp [va_up, h]
theorem nb_copy {Z N : Nat → Int32} {F : Nat → Nat → Int32} {q p : Nat} (hq : q < 27) (hp : p < 27) (hne : p ≠ q) (h0 : 0 ≤ N p) (hl : (N p).toInt ≤ px_lim p) (hl2 : (N p).toInt ≤ px_lim q) : px_PM 3 13 [.ref (px_O q), .ref (px_O p)] (px_CH Z N F, []) (fun r h' => r = none ∧ h' = (px_CH Z (upd N q (N p)) (va_up F q (px_ov (F p) (F q) (N p).toNatClampNeg)), [])) := by
  refine px_PM.start (nL := 2) (code := pc_13) rfl rfl ?_
  refine px_PW.steps kt_13.2 2 rfl ?_
  refine px_PW.getf kt_13.2 rfl (ch_obj hp) rfl ?_
  refine px_PW.callV kt_13.2 rfl rfl (ch_isO hq) rfl (nb_fill hq (N p)) (by decide) (fun v h1 g => ?_)
  obtain ⟨rfl, rfl⟩ := g
  rw [(px_fz_id h0 hl2).1, (px_fz_id h0 hl2).2]
  refine px_PW.steps kt_13.2 5 rfl ?_
  refine px_PW.getf kt_13.2 rfl (ch_obj hq) rfl ?_
  rw [px_upd_self]
  have b0 : ¬ (0 : Int32) < 0 := by decide
  have b1 : ¬ N p < 0 := Int32.not_lt.mpr h0
  have b2 : ¬ N p < N p := Int32.not_lt.mpr (Int32.le_refl _)
  have b3 : ¬ N p - N p < 0 := by rw [Int32.sub_self]; exact b0
  have e : (if ((0 : Int32) < 0 ∨ N p < 0 ∨ upd N q (N p) p < N p ∨ upd N q (N p) p - N p < 0) ∨ ((0 : Int32) < 0 ∨ N p < 0 ∨ upd N q (N p) q < N p ∨ upd N q (N p) q - N p < 0) then va_up F q (px_zf (F q) 0 (N p).toNatClampNeg) else va_up (va_up F q (px_zf (F q) 0 (N p).toNatClampNeg)) q (va_cpy (va_up F q (px_zf (F q) 0 (N p).toNatClampNeg) p) (va_up F q (px_zf (F q) 0 (N p).toNatClampNeg) q) (0 : Int32).toNatClampNeg (0 : Int32).toNatClampNeg (N p).toNatClampNeg)) = va_up F q (px_ov (F p) (F q) (N p).toNatClampNeg) := by
    rw [px_upd_self, px_upd_ne N (N p) hne, px_up_self, px_up_ne F _ hne, px_up_up, if_neg (by simp only [b0, b1, b2, b3, or_self, not_false_eq_true])]
    exact congrArg (va_up F q) (px_cpy_ov (F p) (F q) _)
  refine px_PW.callV kt_13.2 rfl rfl (ch_isO hq) rfl (nb_take hq hp 0 0 (N p) (by rw [px_upd_ne N (N p) hne]; exact hl) (by rw [px_upd_self]; exact hl2)) (by decide) (fun v h1 g => ?_)
  obtain ⟨rfl, rfl⟩ := g
  exact px_PW.ret kt_13.2 rfl rfl ⟨rfl, by rw [e]⟩
theorem px_inb0 {i n : Int32} (h : ¬ (i < 0 ∨ n < 0)) : decide (0 ≤ i) = true ∧ decide (0 ≤ n) = true := by
  constructor
  · exact decide_eq_true (i32_nlt (fun q => h (Or.inl q)))
  · exact decide_eq_true (i32_nlt (fun q => h (Or.inr q)))
end
/-! part 21.small -/
section
theorem cc_isKM (k : Int32) (h : px_H) : px_PM 1 91 [.int k] h (fun r h' => r = some (.int (if k < 0 ∨ 69 < k then 0 else 1)) ∧ h' = h) := by
  refine px_PM.start (nL := 1) (code := pc_91) rfl rfl ?_
  refine px_PW.steps kt_91.2 2 rfl ?_
  refine px_PW.br (fun c0 => ?_) (fun c0 => ?_)
  · have c0 := of_decide_eq_true c0
    refine px_PW.steps kt_91.2 1 rfl ?_
    refine px_PW.ret kt_91.2 rfl rfl ?_
    exact ⟨by simp [*], rfl⟩
  · have c0 := of_decide_eq_false c0
    refine px_PW.steps kt_91.2 3 rfl ?_
    refine px_PW.br (fun c1 => ?_) (fun c1 => ?_)
    · have c1 := of_decide_eq_true c1
      refine px_PW.steps kt_91.2 1 rfl ?_
      refine px_PW.ret kt_91.2 rfl rfl ?_
      exact ⟨by simp [*], rfl⟩
    · have c1 := of_decide_eq_false c1
      refine px_PW.steps kt_91.2 2 rfl ?_
      refine px_PW.ret kt_91.2 rfl rfl ?_
      exact ⟨by simp [*], rfl⟩
theorem cc_isFrom (k : Int32) (h : px_H) : px_PM 1 92 [.int k] h (fun r h' => r = some (.int (if k < 0 ∨ 4000 < k then 0 else 1)) ∧ h' = h) := by
  refine px_PM.start (nL := 1) (code := pc_92) rfl rfl ?_
  refine px_PW.steps kt_92.2 2 rfl ?_
  refine px_PW.br (fun c0 => ?_) (fun c0 => ?_)
  · have c0 := of_decide_eq_true c0
    refine px_PW.steps kt_92.2 1 rfl ?_
    refine px_PW.ret kt_92.2 rfl rfl ?_
    exact ⟨by simp [*], rfl⟩
  · have c0 := of_decide_eq_false c0
    refine px_PW.steps kt_92.2 3 rfl ?_
    refine px_PW.br (fun c1 => ?_) (fun c1 => ?_)
    · have c1 := of_decide_eq_true c1
      refine px_PW.steps kt_92.2 1 rfl ?_
      refine px_PW.ret kt_92.2 rfl rfl ?_
      exact ⟨by simp [*], rfl⟩
    · have c1 := of_decide_eq_false c1
      refine px_PW.steps kt_92.2 2 rfl ?_
      refine px_PW.ret kt_92.2 rfl rfl ?_
      exact ⟨by simp [*], rfl⟩
theorem cc_isUse (k : Int32) (h : px_H) : px_PM 1 93 [.int k] h (fun r h' => r = some (.int (if k = 0 ∨ k = 1 then 1 else 0)) ∧ h' = h) := by
  refine px_PM.start (nL := 1) (code := pc_93) rfl rfl ?_
  refine px_PW.steps kt_93.2 2 rfl ?_
  refine px_PW.br (fun c0 => ?_) (fun c0 => ?_)
  · have c0 := of_decide_eq_true c0
    refine px_PW.steps kt_93.2 2 rfl ?_
    refine px_PW.ret kt_93.2 rfl rfl ?_
    exact ⟨by simp [*], rfl⟩
  · have c0 := of_decide_eq_false c0
    refine px_PW.steps kt_93.2 3 rfl ?_
    refine px_PW.br (fun c1 => ?_) (fun c1 => ?_)
    · have c1 := of_decide_eq_false (px_nt c1)
      refine px_PW.steps kt_93.2 1 rfl ?_
      refine px_PW.ret kt_93.2 rfl rfl ?_
      exact ⟨by simp [*], rfl⟩
    · have c1 := of_decide_eq_true (px_nf c1)
      refine px_PW.steps kt_93.2 2 rfl ?_
      refine px_PW.ret kt_93.2 rfl rfl ?_
      exact ⟨by simp [*], rfl⟩
theorem cc_quot (a b : Int32) (h : px_H) : px_PM 1 96 [.int a, .int b] h (fun r h' => r = some (.int (if b = 0 then 0 else a / b)) ∧ h' = h) := by
  refine px_PM.start (nL := 2) (code := pc_96) rfl rfl ?_
  refine px_PW.steps kt_96.2 2 rfl ?_
  refine px_PW.br (fun c0 => ?_) (fun c0 => ?_)
  · have c0 := of_decide_eq_false (px_nt c0)
    refine px_PW.steps kt_96.2 2 rfl ?_
    refine px_PW.bin0 kt_96.2 rfl c0 ?_
    refine px_PW.ret kt_96.2 rfl rfl ?_
    exact ⟨by simp [*], rfl⟩
  · have c0 := of_decide_eq_true (px_nf c0)
    refine px_PW.steps kt_96.2 2 rfl ?_
    refine px_PW.ret kt_96.2 rfl rfl ?_
    exact ⟨by simp [*], rfl⟩
theorem cc_rest (a b : Int32) (h : px_H) : px_PM 1 97 [.int a, .int b] h (fun r h' => r = some (.int (if b = 0 then 0 else a - a / b * b)) ∧ h' = h) := by
  refine px_PM.start (nL := 2) (code := pc_97) rfl rfl ?_
  refine px_PW.steps kt_97.2 2 rfl ?_
  refine px_PW.br (fun c0 => ?_) (fun c0 => ?_)
  · have c0 := of_decide_eq_false (px_nt c0)
    refine px_PW.steps kt_97.2 2 rfl ?_
    refine px_PW.bin0 kt_97.2 rfl c0 ?_
    refine px_PW.ret kt_97.2 rfl rfl ?_
    exact ⟨by simp [*], rfl⟩
  · have c0 := of_decide_eq_true (px_nf c0)
    refine px_PW.steps kt_97.2 2 rfl ?_
    refine px_PW.ret kt_97.2 rfl rfl ?_
    exact ⟨by simp [*], rfl⟩
theorem cc_truth (b : Int32) (h : px_H) : px_PM 1 24 [.int b] h (fun r h' => r = some (.int (if b = 0 then 0 else 1)) ∧ h' = h) := by
  refine px_PM.start (nL := 1) (code := pc_24) rfl rfl ?_
  refine px_PW.steps kt_24.2 2 rfl ?_
  refine px_PW.br (fun c0 => ?_) (fun c0 => ?_)
  · have c0 := of_decide_eq_true c0
    refine px_PW.steps kt_24.2 1 rfl ?_
    refine px_PW.ret kt_24.2 rfl rfl ?_
    exact ⟨by simp [*], rfl⟩
  · have c0 := of_decide_eq_false c0
    refine px_PW.steps kt_24.2 2 rfl ?_
    refine px_PW.ret kt_24.2 rfl rfl ?_
    exact ⟨by simp [*], rfl⟩
theorem cc_within (v lo hi : Int32) (h : px_H) : px_PM 1 98 [.int v, .int lo, .int hi] h (fun r h' => r = some (.int (if lo < (if v < hi then v else hi) then (if v < hi then v else hi) else lo)) ∧ h' = h) := by
  refine px_PM.start (nL := 3) (code := pc_98) rfl rfl ?_
  refine px_PW.steps kt_98.2 5 rfl ?_
  exact px_PW.ret kt_98.2 rfl rfl ⟨rfl, rfl⟩
theorem px_k7 {N : Nat → Int32} (h0 : N 0 = 7) {k : Nat} (hk : k < 7) (f : Nat → Int32) : (if Int32.ofNat k < 0 ∨ N 0 ≤ Int32.ofNat k then 0 else f (Int32.ofNat k).toNatClampNeg) = f k := by
  rw [h0]
  match k, hk with
  | 0, _ => rfl
  | 1, _ => rfl
  | 2, _ => rfl
  | 3, _ => rfl
  | 4, _ => rfl
  | 5, _ => rfl
  | 6, _ => rfl
  | k + 7, h => exact absurd h (by omega)
theorem px_l7 {x : Int32} (h0 : x = 7) : x.toInt ≤ 7 := by rw [h0]; decide +kernel
theorem cc_is {Z N : Nat → Int32} {F : Nat → Nat → Int32} (h0 : N 0 = 7) (k : Nat) (hk : k < 7) : px_PM 2 87 [.ref 0, .int (Int32.ofNat k)] (px_CH Z N F, []) (fun r h' => r = some (.int (F 0 k)) ∧ h' = (px_CH Z N F, [])) := by
  refine px_PM.start (nL := 2) (code := pc_87) rfl rfl ?_
  refine px_PW.steps kt_87.2 4 rfl ?_
  refine px_PW.callV kt_87.2 rfl rfl rfl rfl (nb_get (q := 0) (by decide) (Int32.ofNat k) (px_l7 h0)) (by decide) (fun v h1 g => ?_)
  obtain ⟨rfl, rfl⟩ := g
  rw [px_k7 h0 hk]
  exact px_PW.ret kt_87.2 rfl rfl ⟨rfl, rfl⟩
theorem cc_isThing {Z N : Nat → Int32} {F : Nat → Nat → Int32} (t : Int32) : px_PM 2 88 [.ref 0, .int t] (px_CH Z N F, []) (fun r h' => r = some (.int (if t < 0 ∨ N 1 ≤ t then 0 else 1)) ∧ h' = (px_CH Z N F, [])) := by
  refine px_PM.start (nL := 2) (code := pc_88) rfl rfl ?_
  refine px_PW.steps kt_88.2 4 rfl ?_
  refine px_PW.callV kt_88.2 rfl rfl rfl rfl (nb_stands (q := 1) (by decide) t) (by decide) (fun v h1 g => ?_)
  obtain ⟨rfl, rfl⟩ := g
  by_cases c : t < 0 ∨ N 1 ≤ t
  · rw [if_pos c]
    exact px_PW.ret kt_88.2 rfl rfl ⟨rfl, rfl⟩
  · rw [if_neg c]
    exact px_PW.ret kt_88.2 rfl rfl ⟨rfl, rfl⟩
theorem px_k18 {x : Int32} (h0 : x = 7) {k : Nat} (hk : k < 7) : ¬ (Int32.ofNat k < 0 ∨ x ≤ Int32.ofNat k) ∧ (Int32.ofNat k).toNatClampNeg = k := by
  rw [h0]
  match k, hk with
  | 0, _ => exact ⟨by decide +kernel, rfl⟩
  | 1, _ => exact ⟨by decide +kernel, rfl⟩
  | 2, _ => exact ⟨by decide +kernel, rfl⟩
  | 3, _ => exact ⟨by decide +kernel, rfl⟩
  | 4, _ => exact ⟨by decide +kernel, rfl⟩
  | 5, _ => exact ⟨by decide +kernel, rfl⟩
  | 6, _ => exact ⟨by decide +kernel, rfl⟩
  | k + 7, h => exact absurd h (by omega)
/-- an ERROR: counted, and LOW less k -/
theorem cc_error {Z N : Nat → Int32} {F : Nat → Nat → Int32} (h0 : N 18 = 7) (k : Nat) (hk : k < 7) : px_PM 2 86 [.ref 0, .int (Int32.ofNat k)] (px_CH Z N F, []) (fun r h' => r = some (.int (-1000000000 - Int32.ofNat k)) ∧ h' = (px_CH Z N (va_up F 18 (upd (F 18) k (F 18 k + 1))), [])) := by
  refine px_PM.start (nL := 2) (code := pc_86) rfl rfl ?_
  refine px_PW.steps kt_86.2 6 rfl ?_
  refine px_PW.callV kt_86.2 rfl rfl rfl rfl (nb_get (q := 18) (by decide) (Int32.ofNat k) (px_l7 h0)) (by decide) (fun v h1 g => ?_)
  obtain ⟨rfl, rfl⟩ := g
  rw [if_neg (px_k18 h0 hk).1, (px_k18 h0 hk).2]
  refine px_PW.steps kt_86.2 2 rfl ?_
  refine px_PW.callV kt_86.2 rfl rfl rfl rfl (nb_set (q := 18) (by decide) (Int32.ofNat k) (F 18 k + 1) (px_l7 h0)) (by decide) (fun v h1 g => ?_)
  obtain ⟨rfl, rfl⟩ := g
  rw [if_neg (px_k18 h0 hk).1, (px_k18 h0 hk).2]
  refine px_PW.steps kt_86.2 3 rfl ?_
  exact px_PW.ret kt_86.2 rfl rfl ⟨rfl, rfl⟩
end
/-! part 22.row -/
section
theorem px_op_6 {d : Nat} {code : Nat → Option px_A} (hT : px_frT code) {Q : Option Value → px_H → Prop} {pc : Nat} {x : Int32} {lv : px_L} {r : List Value} {Z N : Nat → Int32} {F : Nat → Nat → Int32} (hc : code pc = some (px_putf true 4 0)) (kk : px_PW d code Q (pc + 3) lv r (px_CH (upd Z 6 x) N F, [])) : px_PW d code Q pc lv (.int x :: .ref 54 :: r) (px_CH Z N F, []) := px_PW.putf hT hc rfl rfl kk
theorem px_op_7 {d : Nat} {code : Nat → Option px_A} (hT : px_frT code) {Q : Option Value → px_H → Prop} {pc : Nat} {x : Int32} {lv : px_L} {r : List Value} {Z N : Nat → Int32} {F : Nat → Nat → Int32} (hc : code pc = some (px_putf true 4 1)) (kk : px_PW d code Q (pc + 3) lv r (px_CH (upd Z 7 x) N F, [])) : px_PW d code Q pc lv (.int x :: .ref 54 :: r) (px_CH Z N F, []) := px_PW.putf hT hc rfl rfl kk
theorem px_op_8 {d : Nat} {code : Nat → Option px_A} (hT : px_frT code) {Q : Option Value → px_H → Prop} {pc : Nat} {x : Int32} {lv : px_L} {r : List Value} {Z N : Nat → Int32} {F : Nat → Nat → Int32} (hc : code pc = some (px_putf true 4 2)) (kk : px_PW d code Q (pc + 3) lv r (px_CH (upd Z 8 x) N F, [])) : px_PW d code Q pc lv (.int x :: .ref 54 :: r) (px_CH Z N F, []) := px_PW.putf hT hc rfl rfl kk
theorem px_op_9 {d : Nat} {code : Nat → Option px_A} (hT : px_frT code) {Q : Option Value → px_H → Prop} {pc : Nat} {x : Int32} {lv : px_L} {r : List Value} {Z N : Nat → Int32} {F : Nat → Nat → Int32} (hc : code pc = some (px_putf true 4 3)) (kk : px_PW d code Q (pc + 3) lv r (px_CH (upd Z 9 x) N F, [])) : px_PW d code Q pc lv (.int x :: .ref 54 :: r) (px_CH Z N F, []) := px_PW.putf hT hc rfl rfl kk
theorem px_op_10 {d : Nat} {code : Nat → Option px_A} (hT : px_frT code) {Q : Option Value → px_H → Prop} {pc : Nat} {x : Int32} {lv : px_L} {r : List Value} {Z N : Nat → Int32} {F : Nat → Nat → Int32} (hc : code pc = some (px_putf true 4 4)) (kk : px_PW d code Q (pc + 3) lv r (px_CH (upd Z 10 x) N F, [])) : px_PW d code Q pc lv (.int x :: .ref 54 :: r) (px_CH Z N F, []) := px_PW.putf hT hc rfl rfl kk
theorem px_op_11 {d : Nat} {code : Nat → Option px_A} (hT : px_frT code) {Q : Option Value → px_H → Prop} {pc : Nat} {x : Int32} {lv : px_L} {r : List Value} {Z N : Nat → Int32} {F : Nat → Nat → Int32} (hc : code pc = some (px_putf true 4 5)) (kk : px_PW d code Q (pc + 3) lv r (px_CH (upd Z 11 x) N F, [])) : px_PW d code Q pc lv (.int x :: .ref 54 :: r) (px_CH Z N F, []) := px_PW.putf hT hc rfl rfl kk
theorem px_op_12 {d : Nat} {code : Nat → Option px_A} (hT : px_frT code) {Q : Option Value → px_H → Prop} {pc : Nat} {x : Int32} {lv : px_L} {r : List Value} {Z N : Nat → Int32} {F : Nat → Nat → Int32} (hc : code pc = some (px_putf true 4 6)) (kk : px_PW d code Q (pc + 3) lv r (px_CH (upd Z 12 x) N F, [])) : px_PW d code Q pc lv (.int x :: .ref 54 :: r) (px_CH Z N F, []) := px_PW.putf hT hc rfl rfl kk
theorem px_op_13 {d : Nat} {code : Nat → Option px_A} (hT : px_frT code) {Q : Option Value → px_H → Prop} {pc : Nat} {x : Int32} {lv : px_L} {r : List Value} {Z N : Nat → Int32} {F : Nat → Nat → Int32} (hc : code pc = some (px_putf true 4 7)) (kk : px_PW d code Q (pc + 3) lv r (px_CH (upd Z 13 x) N F, [])) : px_PW d code Q pc lv (.int x :: .ref 54 :: r) (px_CH Z N F, []) := px_PW.putf hT hc rfl rfl kk
theorem px_op_14 {d : Nat} {code : Nat → Option px_A} (hT : px_frT code) {Q : Option Value → px_H → Prop} {pc : Nat} {x : Int32} {lv : px_L} {r : List Value} {Z N : Nat → Int32} {F : Nat → Nat → Int32} (hc : code pc = some (px_putf true 4 8)) (kk : px_PW d code Q (pc + 3) lv r (px_CH (upd Z 14 x) N F, [])) : px_PW d code Q pc lv (.int x :: .ref 54 :: r) (px_CH Z N F, []) := px_PW.putf hT hc rfl rfl kk
theorem px_op_0 {d : Nat} {code : Nat → Option px_A} (hT : px_frT code) {Q : Option Value → px_H → Prop} {pc : Nat} {x : Int32} {lv : px_L} {r : List Value} {Z N : Nat → Int32} {F : Nat → Nat → Int32} (hc : code pc = some (px_putf true 0 9)) (kk : px_PW d code Q (pc + 3) lv r (px_CH (upd Z 0 x) N F, [])) : px_PW d code Q pc lv (.int x :: .ref 1 :: r) (px_CH Z N F, []) := px_PW.putf hT hc rfl rfl kk
theorem px_op_1 {d : Nat} {code : Nat → Option px_A} (hT : px_frT code) {Q : Option Value → px_H → Prop} {pc : Nat} {x : Int32} {lv : px_L} {r : List Value} {Z N : Nat → Int32} {F : Nat → Nat → Int32} (hc : code pc = some (px_putf true 0 9)) (kk : px_PW d code Q (pc + 3) lv r (px_CH (upd Z 1 x) N F, [])) : px_PW d code Q pc lv (.int x :: .ref 20 :: r) (px_CH Z N F, []) := px_PW.putf hT hc rfl rfl kk
theorem px_op_21 {d : Nat} {code : Nat → Option px_A} (hT : px_frT code) {Q : Option Value → px_H → Prop} {pc : Nat} {x : Int32} {lv : px_L} {r : List Value} {Z N : Nat → Int32} {F : Nat → Nat → Int32} (hc : code pc = some (px_putf true 7 2)) (kk : px_PW d code Q (pc + 3) lv r (px_CH (upd Z 21 x) N F, [])) : px_PW d code Q pc lv (.int x :: .ref 0 :: r) (px_CH Z N F, []) := px_PW.putf hT hc rfl rfl kk
theorem px_op_2 {d : Nat} {code : Nat → Option px_A} (hT : px_frT code) {Q : Option Value → px_H → Prop} {pc : Nat} {x : Int32} {lv : px_L} {r : List Value} {Z N : Nat → Int32} {F : Nat → Nat → Int32} (hc : code pc = some (px_putf true 5 1)) (kk : px_PW d code Q (pc + 3) lv r (px_CH (upd Z 2 x) N F, [])) : px_PW d code Q pc lv (.int x :: .ref 42 :: r) (px_CH Z N F, []) := px_PW.putf hT hc rfl rfl kk
theorem px_op_3 {d : Nat} {code : Nat → Option px_A} (hT : px_frT code) {Q : Option Value → px_H → Prop} {pc : Nat} {x : Int32} {lv : px_L} {r : List Value} {Z N : Nat → Int32} {F : Nat → Nat → Int32} (hc : code pc = some (px_putf true 5 1)) (kk : px_PW d code Q (pc + 3) lv r (px_CH (upd Z 3 x) N F, [])) : px_PW d code Q pc lv (.int x :: .ref 45 :: r) (px_CH Z N F, []) := px_PW.putf hT hc rfl rfl kk
theorem px_op_4 {d : Nat} {code : Nat → Option px_A} (hT : px_frT code) {Q : Option Value → px_H → Prop} {pc : Nat} {x : Int32} {lv : px_L} {r : List Value} {Z N : Nat → Int32} {F : Nat → Nat → Int32} (hc : code pc = some (px_putf true 5 1)) (kk : px_PW d code Q (pc + 3) lv r (px_CH (upd Z 4 x) N F, [])) : px_PW d code Q pc lv (.int x :: .ref 48 :: r) (px_CH Z N F, []) := px_PW.putf hT hc rfl rfl kk
theorem px_op_5 {d : Nat} {code : Nat → Option px_A} (hT : px_frT code) {Q : Option Value → px_H → Prop} {pc : Nat} {x : Int32} {lv : px_L} {r : List Value} {Z N : Nat → Int32} {F : Nat → Nat → Int32} (hc : code pc = some (px_putf true 5 1)) (kk : px_PW d code Q (pc + 3) lv r (px_CH (upd Z 5 x) N F, [])) : px_PW d code Q pc lv (.int x :: .ref 51 :: r) (px_CH Z N F, []) := px_PW.putf hT hc rfl rfl kk
theorem px_op_15 {d : Nat} {code : Nat → Option px_A} (hT : px_frT code) {Q : Option Value → px_H → Prop} {pc : Nat} {x : Int32} {lv : px_L} {r : List Value} {Z N : Nat → Int32} {F : Nat → Nat → Int32} (hc : code pc = some (px_putf true 2 2)) (kk : px_PW d code Q (pc + 3) lv r (px_CH (upd Z 15 x) N F, [])) : px_PW d code Q pc lv (.int x :: .ref 55 :: r) (px_CH Z N F, []) := px_PW.putf hT hc rfl rfl kk
theorem px_op_16 {d : Nat} {code : Nat → Option px_A} (hT : px_frT code) {Q : Option Value → px_H → Prop} {pc : Nat} {x : Int32} {lv : px_L} {r : List Value} {Z N : Nat → Int32} {F : Nat → Nat → Int32} (hc : code pc = some (px_putf true 2 3)) (kk : px_PW d code Q (pc + 3) lv r (px_CH (upd Z 16 x) N F, [])) : px_PW d code Q pc lv (.int x :: .ref 55 :: r) (px_CH Z N F, []) := px_PW.putf hT hc rfl rfl kk
theorem px_op_18 {d : Nat} {code : Nat → Option px_A} (hT : px_frT code) {Q : Option Value → px_H → Prop} {pc : Nat} {x : Int32} {lv : px_L} {r : List Value} {Z N : Nat → Int32} {F : Nat → Nat → Int32} (hc : code pc = some (px_putf true 6 1)) (kk : px_PW d code Q (pc + 3) lv r (px_CH (upd Z 18 x) N F, [])) : px_PW d code Q pc lv (.int x :: .ref 63 :: r) (px_CH Z N F, []) := px_PW.putf hT hc rfl rfl kk
theorem px_op_19 {d : Nat} {code : Nat → Option px_A} (hT : px_frT code) {Q : Option Value → px_H → Prop} {pc : Nat} {x : Int32} {lv : px_L} {r : List Value} {Z N : Nat → Int32} {F : Nat → Nat → Int32} (hc : code pc = some (px_putf true 6 2)) (kk : px_PW d code Q (pc + 3) lv r (px_CH (upd Z 19 x) N F, [])) : px_PW d code Q pc lv (.int x :: .ref 63 :: r) (px_CH Z N F, []) := px_PW.putf hT hc rfl rfl kk
theorem px_op_20 {d : Nat} {code : Nat → Option px_A} (hT : px_frT code) {Q : Option Value → px_H → Prop} {pc : Nat} {x : Int32} {lv : px_L} {r : List Value} {Z N : Nat → Int32} {F : Nat → Nat → Int32} (hc : code pc = some (px_putf true 6 3)) (kk : px_PW d code Q (pc + 3) lv r (px_CH (upd Z 20 x) N F, [])) : px_PW d code Q pc lv (.int x :: .ref 63 :: r) (px_CH Z N F, []) := px_PW.putf hT hc rfl rfl kk
theorem px_op_17 {d : Nat} {code : Nat → Option px_A} (hT : px_frT code) {Q : Option Value → px_H → Prop} {pc : Nat} {x : Int32} {lv : px_L} {r : List Value} {Z N : Nat → Int32} {F : Nat → Nat → Int32} (hx : (x == 0 || x == 1) = true) (hc : code pc = some (px_putf false 2 4)) (kk : px_PW d code Q (pc + 3) lv r (px_CH (upd Z 17 x) N F, [])) : px_PW d code Q pc lv (.int x :: .ref 55 :: r) (px_CH Z N F, []) := px_PW.putf hT hc rfl (by rw [Bool.false_or, hx]; rfl) kk
def i_min (x y : Int32) : Int32 := if y < x then y else x
def i_max (x y : Int32) : Int32 := if x < y then y else x
def i_quo (a b : Int32) : Int32 := if b = 0 then 0 else a / b
def i_rem (a b : Int32) : Int32 := if b = 0 then 0 else a - a / b * b
def w_beg (Z : Nat → Int32) (i : Int32) : Int32 := if 0 < i then Z 6 + Z 9 + (i - 1) * (Z 8 + Z 9) else 0
def w_end (Z : Nat → Int32) (i : Int32) : Int32 := i_min (Z 7) (Z 6 + i * (Z 8 + Z 9))
def w_wid (Z : Nat → Int32) (i : Int32) : Int32 := w_end Z i - w_beg Z i
def w_nar (Z : Nat → Int32) : Int32 := i_min (w_wid Z 0) (w_wid Z (Z 10 - 1))
def w_cut (Z : Nat → Int32) (x : Int32) : Int32 := if Z 8 ≤ x then 0 else 1
def w_half (Z : Nat → Int32) (x : Int32) : Int32 := if Z 8 < 2 * x + 3 then 0 else 1
def w_ofE (Z : Nat → Int32) (a b : Int32) : Int32 := (if a = 0 then 0 else 1) + (if b = 0 ∨ Z 10 ≤ 1 then 0 else 1)
def w_cuts (Z : Nat → Int32) : Int32 := w_ofE Z (w_cut Z (w_wid Z 0)) (w_cut Z (w_wid Z (Z 10 - 1)))
def w_halves (Z : Nat → Int32) : Int32 := w_ofE Z (w_half Z (w_wid Z 0)) (w_half Z (w_wid Z (Z 10 - 1)))
def w_beh (Z : Nat → Int32) (x : Int32) : Int32 := if 1 ≤ x - Z 6 - Z 9 then 1 + i_quo (x - Z 6 - Z 9 - 1) (Z 8 + Z 9) else 0
def w_enb (Z : Nat → Int32) (x : Int32) : Int32 := if x < Z 7 then (if Z 6 ≤ x then 1 + i_quo (x - Z 6) (Z 8 + Z 9) else 0) else Z 10
def w_hid (Z : Nat → Int32) (i f t : Int32) : Int32 := if w_cut Z (w_wid Z i) = 0 ∨ w_beg Z i < f ∨ t < w_end Z i then 0 else 1
def w_gb (Z : Nat → Int32) (n x : Int32) : Int32 := if Z 10 ≤ n then x - w_beg Z (n - 1) else i_min (x - w_beg Z (n - 1)) (w_beg Z n - x)
def w_ge (Z : Nat → Int32) (n x : Int32) : Int32 := if Z 10 ≤ n then (if n ≤ 0 then 1000000 else x - w_end Z (n - 1)) else i_min (if n ≤ 0 then 1000000 else x - w_end Z (n - 1)) (w_end Z n - x)
theorem rw_beg {Z N : Nat → Int32} {F : Nat → Nat → Int32} (i : Int32) : px_PM 1 26 [.ref 54, .int i] (px_CH Z N F, []) (fun r h' => r = some (.int (w_beg Z i)) ∧ h' = (px_CH Z N F, [])) := by
  refine px_PM.start (nL := 2) (code := pc_26) rfl rfl ?_
  refine px_PW.steps kt_26.2 2 rfl ?_
  refine px_PW.br (fun c0 => ?_) (fun c0 => ?_)
  · have c0 := of_decide_eq_true c0
    refine px_PW.steps kt_26.2 15 rfl ?_
    refine px_PW.ret kt_26.2 rfl rfl ?_
    exact ⟨by simp [w_beg, *], rfl⟩
  · have c0 := of_decide_eq_false c0
    refine px_PW.steps kt_26.2 2 rfl ?_
    refine px_PW.ret kt_26.2 rfl rfl ?_
    exact ⟨by simp [w_beg, *], rfl⟩
theorem rw_end {Z N : Nat → Int32} {F : Nat → Nat → Int32} (i : Int32) : px_PM 1 27 [.ref 54, .int i] (px_CH Z N F, []) (fun r h' => r = some (.int (w_end Z i)) ∧ h' = (px_CH Z N F, [])) := by
  refine px_PM.start (nL := 2) (code := pc_27) rfl rfl ?_
  refine px_PW.steps kt_27.2 13 rfl ?_
  refine px_PW.ret kt_27.2 rfl rfl ?_
  exact ⟨rfl, rfl⟩
theorem rw_wid {Z N : Nat → Int32} {F : Nat → Nat → Int32} (i : Int32) : px_PM 2 28 [.ref 54, .int i] (px_CH Z N F, []) (fun r h' => r = some (.int (w_wid Z i)) ∧ h' = (px_CH Z N F, [])) := by
  refine px_PM.start (nL := 2) (code := pc_28) rfl rfl ?_
  refine px_PW.steps kt_28.2 2 rfl ?_
  refine px_PW.callV kt_28.2 rfl rfl rfl rfl (rw_end _) (by decide) (fun v h1 q => ?_)
  obtain ⟨rfl, rfl⟩ := q
  refine px_PW.steps kt_28.2 2 rfl ?_
  refine px_PW.callV kt_28.2 rfl rfl rfl rfl (rw_beg _) (by decide) (fun v h1 q => ?_)
  obtain ⟨rfl, rfl⟩ := q
  refine px_PW.steps kt_28.2 1 rfl ?_
  refine px_PW.ret kt_28.2 rfl rfl ?_
  exact ⟨rfl, rfl⟩
theorem rw_nar {Z N : Nat → Int32} {F : Nat → Nat → Int32} : px_PM 3 29 [.ref 54] (px_CH Z N F, []) (fun r h' => r = some (.int (w_nar Z)) ∧ h' = (px_CH Z N F, [])) := by
  refine px_PM.start (nL := 1) (code := pc_29) rfl rfl ?_
  refine px_PW.steps kt_29.2 2 rfl ?_
  refine px_PW.callV kt_29.2 rfl rfl rfl rfl (rw_wid _) (by decide) (fun v h1 q => ?_)
  obtain ⟨rfl, rfl⟩ := q
  refine px_PW.steps kt_29.2 5 rfl ?_
  refine px_PW.callV kt_29.2 rfl rfl rfl rfl (rw_wid _) (by decide) (fun v h1 q => ?_)
  obtain ⟨rfl, rfl⟩ := q
  refine px_PW.steps kt_29.2 1 rfl ?_
  refine px_PW.ret kt_29.2 rfl rfl ?_
  exact ⟨rfl, rfl⟩
theorem rw_cut {Z N : Nat → Int32} {F : Nat → Nat → Int32} (x : Int32) : px_PM 1 34 [.ref 54, .int x] (px_CH Z N F, []) (fun r h' => r = some (.int (w_cut Z x)) ∧ h' = (px_CH Z N F, [])) := by
  refine px_PM.start (nL := 2) (code := pc_34) rfl rfl ?_
  refine px_PW.steps kt_34.2 4 rfl ?_
  refine px_PW.br (fun c0 => ?_) (fun c0 => ?_)
  · have c0 := of_decide_eq_true c0
    refine px_PW.steps kt_34.2 1 rfl ?_
    refine px_PW.ret kt_34.2 rfl rfl ?_
    exact ⟨by simp [w_cut, *], rfl⟩
  · have c0 := of_decide_eq_false c0
    refine px_PW.steps kt_34.2 2 rfl ?_
    refine px_PW.ret kt_34.2 rfl rfl ?_
    exact ⟨by simp [w_cut, *], rfl⟩
theorem rw_half {Z N : Nat → Int32} {F : Nat → Nat → Int32} (x : Int32) : px_PM 1 35 [.ref 54, .int x] (px_CH Z N F, []) (fun r h' => r = some (.int (w_half Z x)) ∧ h' = (px_CH Z N F, [])) := by
  refine px_PM.start (nL := 2) (code := pc_35) rfl rfl ?_
  refine px_PW.steps kt_35.2 8 rfl ?_
  refine px_PW.br (fun c0 => ?_) (fun c0 => ?_)
  · have c0 := of_decide_eq_true c0
    refine px_PW.steps kt_35.2 1 rfl ?_
    refine px_PW.ret kt_35.2 rfl rfl ?_
    exact ⟨by simp [w_half, *], rfl⟩
  · have c0 := of_decide_eq_false c0
    refine px_PW.steps kt_35.2 2 rfl ?_
    refine px_PW.ret kt_35.2 rfl rfl ?_
    exact ⟨by simp [w_half, *], rfl⟩
theorem rw_ofE {Z N : Nat → Int32} {F : Nat → Nat → Int32} (a b : Int32) : px_PM 1 33 [.ref 54, .int a, .int b] (px_CH Z N F, []) (fun r h' => r = some (.int (w_ofE Z a b)) ∧ h' = (px_CH Z N F, [])) := by
  refine px_PM.start (nL := 3) (code := pc_33) rfl rfl ?_
  refine px_PW.steps kt_33.2 2 rfl ?_
  refine px_PW.br (fun c0 => ?_) (fun c0 => ?_)
  · have c0 := of_decide_eq_true c0
    refine px_PW.steps kt_33.2 3 rfl ?_
    refine px_PW.br (fun c1 => ?_) (fun c1 => ?_)
    · have c1 := of_decide_eq_true c1
      refine px_PW.steps kt_33.2 2 rfl ?_
      refine px_PW.ret kt_33.2 rfl rfl ?_
      exact ⟨by simp [w_ofE, *], rfl⟩
    · have c1 := of_decide_eq_false c1
      refine px_PW.steps kt_33.2 4 rfl ?_
      refine px_PW.br (fun c2 => ?_) (fun c2 => ?_)
      · have c2 := of_decide_eq_true c2
        refine px_PW.steps kt_33.2 2 rfl ?_
        refine px_PW.ret kt_33.2 rfl rfl ?_
        exact ⟨by simp [w_ofE, *], rfl⟩
      · have c2 := of_decide_eq_false c2
        refine px_PW.steps kt_33.2 3 rfl ?_
        refine px_PW.ret kt_33.2 rfl rfl ?_
        exact ⟨by simp [w_ofE, *], rfl⟩
  · have c0 := of_decide_eq_false c0
    refine px_PW.steps kt_33.2 4 rfl ?_
    refine px_PW.br (fun c1 => ?_) (fun c1 => ?_)
    · have c1 := of_decide_eq_true c1
      refine px_PW.steps kt_33.2 2 rfl ?_
      refine px_PW.ret kt_33.2 rfl rfl ?_
      exact ⟨by simp [w_ofE, *], rfl⟩
    · have c1 := of_decide_eq_false c1
      refine px_PW.steps kt_33.2 4 rfl ?_
      refine px_PW.br (fun c2 => ?_) (fun c2 => ?_)
      · have c2 := of_decide_eq_true c2
        refine px_PW.steps kt_33.2 2 rfl ?_
        refine px_PW.ret kt_33.2 rfl rfl ?_
        exact ⟨by simp [w_ofE, *], rfl⟩
      · have c2 := of_decide_eq_false c2
        refine px_PW.steps kt_33.2 3 rfl ?_
        refine px_PW.ret kt_33.2 rfl rfl ?_
        exact ⟨by simp [w_ofE, *], rfl⟩
theorem rw_cuts {Z N : Nat → Int32} {F : Nat → Nat → Int32} : px_PM 4 30 [.ref 54] (px_CH Z N F, []) (fun r h' => r = some (.int (w_cuts Z)) ∧ h' = (px_CH Z N F, [])) := by
  refine px_PM.start (nL := 1) (code := pc_30) rfl rfl ?_
  refine px_PW.steps kt_30.2 4 rfl ?_
  refine px_PW.callV kt_30.2 rfl rfl rfl rfl (rw_wid _) (by decide) (fun v h1 q => ?_)
  obtain ⟨rfl, rfl⟩ := q
  refine px_PW.callV kt_30.2 rfl rfl rfl rfl (rw_cut _) (by decide) (fun v h1 q => ?_)
  obtain ⟨rfl, rfl⟩ := q
  refine px_PW.steps kt_30.2 6 rfl ?_
  refine px_PW.callV kt_30.2 rfl rfl rfl rfl (rw_wid _) (by decide) (fun v h1 q => ?_)
  obtain ⟨rfl, rfl⟩ := q
  refine px_PW.callV kt_30.2 rfl rfl rfl rfl (rw_cut _) (by decide) (fun v h1 q => ?_)
  obtain ⟨rfl, rfl⟩ := q
  refine px_PW.callV kt_30.2 rfl rfl rfl rfl (rw_ofE _ _) (by decide) (fun v h1 q => ?_)
  obtain ⟨rfl, rfl⟩ := q
  refine px_PW.ret kt_30.2 rfl rfl ?_
  exact ⟨rfl, rfl⟩
theorem rw_halves {Z N : Nat → Int32} {F : Nat → Nat → Int32} : px_PM 4 31 [.ref 54] (px_CH Z N F, []) (fun r h' => r = some (.int (w_halves Z)) ∧ h' = (px_CH Z N F, [])) := by
  refine px_PM.start (nL := 1) (code := pc_31) rfl rfl ?_
  refine px_PW.steps kt_31.2 4 rfl ?_
  refine px_PW.callV kt_31.2 rfl rfl rfl rfl (rw_wid _) (by decide) (fun v h1 q => ?_)
  obtain ⟨rfl, rfl⟩ := q
  refine px_PW.callV kt_31.2 rfl rfl rfl rfl (rw_half _) (by decide) (fun v h1 q => ?_)
  obtain ⟨rfl, rfl⟩ := q
  refine px_PW.steps kt_31.2 6 rfl ?_
  refine px_PW.callV kt_31.2 rfl rfl rfl rfl (rw_wid _) (by decide) (fun v h1 q => ?_)
  obtain ⟨rfl, rfl⟩ := q
  refine px_PW.callV kt_31.2 rfl rfl rfl rfl (rw_half _) (by decide) (fun v h1 q => ?_)
  obtain ⟨rfl, rfl⟩ := q
  refine px_PW.callV kt_31.2 rfl rfl rfl rfl (rw_ofE _ _) (by decide) (fun v h1 q => ?_)
  obtain ⟨rfl, rfl⟩ := q
  refine px_PW.ret kt_31.2 rfl rfl ?_
  exact ⟨rfl, rfl⟩
theorem rw_beh {Z N : Nat → Int32} {F : Nat → Nat → Int32} (x : Int32) : px_PM 2 37 [.ref 54, .int x] (px_CH Z N F, []) (fun r h' => r = some (.int (w_beh Z x)) ∧ h' = (px_CH Z N F, [])) := by
  refine px_PM.start (nL := 3) (code := pc_37) rfl rfl ?_
  refine px_PW.steps kt_37.2 11 rfl ?_
  refine px_PW.br (fun c0 => ?_) (fun c0 => ?_)
  · have c0 := of_decide_eq_true c0
    refine px_PW.steps kt_37.2 9 rfl ?_
    refine px_PW.callS kt_37.2 rfl rfl rfl (cc_quot _ _ _) (by decide) (fun v h1 q => ?_)
    obtain ⟨rfl, rfl⟩ := q
    refine px_PW.steps kt_37.2 1 rfl ?_
    refine px_PW.ret kt_37.2 rfl rfl ?_
    exact ⟨by simp [w_beh, i_quo, *], rfl⟩
  · have c0 := of_decide_eq_false c0
    refine px_PW.steps kt_37.2 2 rfl ?_
    refine px_PW.ret kt_37.2 rfl rfl ?_
    exact ⟨by simp [w_beh, i_quo, *], rfl⟩
theorem rw_enb {Z N : Nat → Int32} {F : Nat → Nat → Int32} (x : Int32) : px_PM 2 38 [.ref 54, .int x] (px_CH Z N F, []) (fun r h' => r = some (.int (w_enb Z x)) ∧ h' = (px_CH Z N F, [])) := by
  refine px_PM.start (nL := 2) (code := pc_38) rfl rfl ?_
  refine px_PW.steps kt_38.2 4 rfl ?_
  refine px_PW.br (fun c0 => ?_) (fun c0 => ?_)
  · have c0 := of_decide_eq_true c0
    refine px_PW.steps kt_38.2 4 rfl ?_
    refine px_PW.br (fun c1 => ?_) (fun c1 => ?_)
    · have c1 := of_decide_eq_true c1
      refine px_PW.steps kt_38.2 10 rfl ?_
      refine px_PW.callS kt_38.2 rfl rfl rfl (cc_quot _ _ _) (by decide) (fun v h1 q => ?_)
      obtain ⟨rfl, rfl⟩ := q
      refine px_PW.steps kt_38.2 1 rfl ?_
      refine px_PW.ret kt_38.2 rfl rfl ?_
      exact ⟨by simp [w_enb, i_quo, *], rfl⟩
    · have c1 := of_decide_eq_false c1
      refine px_PW.steps kt_38.2 2 rfl ?_
      refine px_PW.ret kt_38.2 rfl rfl ?_
      exact ⟨by simp [w_enb, i_quo, *], rfl⟩
  · have c0 := of_decide_eq_false c0
    refine px_PW.steps kt_38.2 2 rfl ?_
    refine px_PW.ret kt_38.2 rfl rfl ?_
    exact ⟨by simp [w_enb, i_quo, *], rfl⟩
theorem rw_hid {Z N : Nat → Int32} {F : Nat → Nat → Int32} (i f t : Int32) : px_PM 3 36 [.ref 54, .int i, .int f, .int t] (px_CH Z N F, []) (fun r h' => r = some (.int (w_hid Z i f t)) ∧ h' = (px_CH Z N F, [])) := by
  refine px_PM.start (nL := 4) (code := pc_36) rfl rfl ?_
  refine px_PW.steps kt_36.2 3 rfl ?_
  refine px_PW.callV kt_36.2 rfl rfl rfl rfl (rw_wid _) (by decide) (fun v h1 q => ?_)
  obtain ⟨rfl, rfl⟩ := q
  refine px_PW.callV kt_36.2 rfl rfl rfl rfl (rw_cut _) (by decide) (fun v h1 q => ?_)
  obtain ⟨rfl, rfl⟩ := q
  refine px_PW.steps kt_36.2 1 rfl ?_
  refine px_PW.br (fun c0 => ?_) (fun c0 => ?_)
  · have c0 := of_decide_eq_true c0
    refine px_PW.steps kt_36.2 1 rfl ?_
    refine px_PW.ret kt_36.2 rfl rfl ?_
    exact ⟨by simp [w_hid, *], rfl⟩
  · have c0 := of_decide_eq_false c0
    refine px_PW.steps kt_36.2 2 rfl ?_
    refine px_PW.callV kt_36.2 rfl rfl rfl rfl (rw_beg _) (by decide) (fun v h1 q => ?_)
    obtain ⟨rfl, rfl⟩ := q
    refine px_PW.steps kt_36.2 2 rfl ?_
    refine px_PW.br (fun c1 => ?_) (fun c1 => ?_)
    · have c1 := of_decide_eq_true c1
      refine px_PW.steps kt_36.2 1 rfl ?_
      refine px_PW.ret kt_36.2 rfl rfl ?_
      exact ⟨by simp [w_hid, *], rfl⟩
    · have c1 := of_decide_eq_false c1
      refine px_PW.steps kt_36.2 2 rfl ?_
      refine px_PW.callV kt_36.2 rfl rfl rfl rfl (rw_end _) (by decide) (fun v h1 q => ?_)
      obtain ⟨rfl, rfl⟩ := q
      refine px_PW.steps kt_36.2 2 rfl ?_
      refine px_PW.br (fun c2 => ?_) (fun c2 => ?_)
      · have c2 := of_decide_eq_true c2
        refine px_PW.steps kt_36.2 1 rfl ?_
        refine px_PW.ret kt_36.2 rfl rfl ?_
        exact ⟨by simp [w_hid, *], rfl⟩
      · have c2 := of_decide_eq_false c2
        refine px_PW.steps kt_36.2 2 rfl ?_
        refine px_PW.ret kt_36.2 rfl rfl ?_
        exact ⟨by simp [w_hid, *], rfl⟩
theorem rw_gb {Z N : Nat → Int32} {F : Nat → Nat → Int32} (n x : Int32) : px_PM 2 39 [.ref 54, .int n, .int x] (px_CH Z N F, []) (fun r h' => r = some (.int (w_gb Z n x)) ∧ h' = (px_CH Z N F, [])) := by
  refine px_PM.start (nL := 4) (code := pc_39) rfl rfl ?_
  refine px_PW.steps kt_39.2 5 rfl ?_
  refine px_PW.callV kt_39.2 rfl rfl rfl rfl (rw_beg _) (by decide) (fun v h1 q => ?_)
  obtain ⟨rfl, rfl⟩ := q
  refine px_PW.steps kt_39.2 6 rfl ?_
  refine px_PW.br (fun c0 => ?_) (fun c0 => ?_)
  · have c0 := of_decide_eq_true c0
    refine px_PW.steps kt_39.2 1 rfl ?_
    refine px_PW.ret kt_39.2 rfl rfl ?_
    exact ⟨by simp [w_gb, i_min, *], rfl⟩
  · have c0 := of_decide_eq_false c0
    refine px_PW.steps kt_39.2 3 rfl ?_
    refine px_PW.callV kt_39.2 rfl rfl rfl rfl (rw_beg _) (by decide) (fun v h1 q => ?_)
    obtain ⟨rfl, rfl⟩ := q
    refine px_PW.steps kt_39.2 4 rfl ?_
    refine px_PW.ret kt_39.2 rfl rfl ?_
    exact ⟨by simp [w_gb, i_min, *], rfl⟩
theorem rw_ge {Z N : Nat → Int32} {F : Nat → Nat → Int32} (n x : Int32) : px_PM 2 40 [.ref 54, .int n, .int x] (px_CH Z N F, []) (fun r h' => r = some (.int (w_ge Z n x)) ∧ h' = (px_CH Z N F, [])) := by
  refine px_PM.start (nL := 4) (code := pc_40) rfl rfl ?_
  refine px_PW.steps kt_40.2 2 rfl ?_
  refine px_PW.br (fun c0 => ?_) (fun c0 => ?_)
  · have c0 := of_decide_eq_true c0
    refine px_PW.steps kt_40.2 6 rfl ?_
    refine px_PW.br (fun c1 => ?_) (fun c1 => ?_)
    · have c1 := of_decide_eq_true c1
      refine px_PW.steps kt_40.2 1 rfl ?_
      refine px_PW.ret kt_40.2 rfl rfl ?_
      exact ⟨by simp [w_ge, i_min, *], rfl⟩
    · have c1 := of_decide_eq_false c1
      refine px_PW.steps kt_40.2 3 rfl ?_
      refine px_PW.callV kt_40.2 rfl rfl rfl rfl (rw_end _) (by decide) (fun v h1 q => ?_)
      obtain ⟨rfl, rfl⟩ := q
      refine px_PW.steps kt_40.2 4 rfl ?_
      refine px_PW.ret kt_40.2 rfl rfl ?_
      exact ⟨by simp [w_ge, i_min, *], rfl⟩
  · have c0 := of_decide_eq_false c0
    refine px_PW.steps kt_40.2 5 rfl ?_
    refine px_PW.callV kt_40.2 rfl rfl rfl rfl (rw_end _) (by decide) (fun v h1 q => ?_)
    obtain ⟨rfl, rfl⟩ := q
    refine px_PW.steps kt_40.2 7 rfl ?_
    refine px_PW.br (fun c1 => ?_) (fun c1 => ?_)
    · have c1 := of_decide_eq_true c1
      refine px_PW.steps kt_40.2 1 rfl ?_
      refine px_PW.ret kt_40.2 rfl rfl ?_
      exact ⟨by simp [w_ge, i_min, *], rfl⟩
    · have c1 := of_decide_eq_false c1
      refine px_PW.steps kt_40.2 3 rfl ?_
      refine px_PW.callV kt_40.2 rfl rfl rfl rfl (rw_end _) (by decide) (fun v h1 q => ?_)
      obtain ⟨rfl, rfl⟩ := q
      refine px_PW.steps kt_40.2 4 rfl ?_
      refine px_PW.ret kt_40.2 rfl rfl ?_
      exact ⟨by simp [w_ge, i_min, *], rfl⟩
end
