/-! RUNS OF THE PURE MACHINE, with how deep and how long left out -/
/-- method j, with these arguments over this heap, answers and leaves a heap, as Q says; d calls deep at most -/
def px_PM (d j : Nat) (as : List Value) (h : px_H) (Q : Option Value → px_H → Prop) : Prop := ∃ (n : Nat) (v : Option Value) (h' : px_H), px_run px_codes d n j as h = some (v, h') ∧ Q v h'
/-- from a place of a code on -/
def px_PW (d : Nat) (code : Nat → Option px_A) (Q : Option Value → px_H → Prop) (pc : Nat) (lv : px_L) (st : List Value) (h : px_H) : Prop := ∃ (n : Nat) (v : Option Value) (h' : px_H), px_loop (px_run px_codes d n) code n pc lv st h = some (v, h') ∧ Q v h'
theorem px_mono {d d' n n' j : Nat} {as : List Value} {h : px_H} {v : Option Value} {h' : px_H} (hd : d ≤ d') (hn : n ≤ n') (hr : px_run px_codes d n j as h = some (v, h')) : px_run px_codes d' n' j as h = some (v, h') :=
  (px_codes_fr none [] hd hn j as h v h' trivial hr).1
theorem px_PM.mono {d d' j : Nat} {as : List Value} {h : px_H} {Q Q' : Option Value → px_H → Prop} (hp : px_PM d j as h Q) (hd : d ≤ d') (hQ : ∀ v h', Q v h' → Q' v h') : px_PM d' j as h Q' := by
  obtain ⟨n, v, h', h1, h2⟩ := hp
  exact ⟨n, v, h', px_mono hd (Nat.le_refl n) h1, hQ v h' h2⟩
/-- over the class half alone: then over any other half -/
theorem px_PM.left {d j : Nat} {as : List Value} {C : List va_E} {Q : Option Value → List va_E → Prop} (M : List va_E) (hp : px_PM d j as (C, []) (fun v h' => Q v h'.1)) : px_PM d j as (C, M) (fun v h' => Q v h'.1 ∧ h'.2 = M) := by
  obtain ⟨n, v, h', h1, h2⟩ := hp
  exact ⟨n, v, (h'.1, M), (px_codes_fr (some true) M (Nat.le_refl d) (Nat.le_refl n) j as (C, []) v h' rfl h1).1, h2, rfl⟩
theorem px_PM.right {d j : Nat} {as : List Value} {M : List va_E} {Q : Option Value → List va_E → Prop} (C : List va_E) (hp : px_PM d j as ([], M) (fun v h' => Q v h'.2)) : px_PM d j as (C, M) (fun v h' => Q v h'.2 ∧ h'.1 = C) := by
  obtain ⟨n, v, h', h1, h2⟩ := hp
  exact ⟨n, v, (C, h'.2), (px_codes_fr (some false) C (Nat.le_refl d) (Nat.le_refl n) j as ([], M) v h' rfl h1).1, h2, rfl⟩
theorem px_PM.of_ans {d n j : Nat} {as : List Value} {h : px_H} {x : Int32} (hr : px_ans d n j as h = some x) : px_PM d j as h (fun v _ => v = some (.int x)) := by
  unfold px_ans at hr
  split at hr
  · next x' h' hx => cases hr; exact ⟨n, _, _, hx, rfl⟩
  · cases hr
theorem px_PM.start {d j nL : Nat} {code : Nat → Option px_A} {as : List Value} {h : px_H} {Q : Option Value → px_H → Prop} (hc : px_codes j = some (nL, code)) (ha : Nat.ble (px_cat as) nL = true) (k : px_PW d code Q 0 (px_args nL as) [] h) : px_PM (d + 1) j as h Q := by
  obtain ⟨n, v, h', h1, h2⟩ := k
  refine ⟨n, v, h', ?_, h2⟩
  unfold px_run
  rw [hc]
  dsimp only
  rw [ha]
  exact h1
/-- k steps without a call -/
def px_nocall : px_C := fun _ _ _ => none
def px_steps (code : Nat → Option px_A) : Nat → Nat → px_L → List Value → px_H → Option (Nat × px_L × List Value × px_H)
  | 0, pc, lv, st, h => some (pc, lv, st, h)
  | k + 1, pc, lv, st, h => match code pc with
    | none => none
    | some act => match act px_nocall pc lv st h with
      | some (.inl (pc', lv', st', h')) => px_steps code k pc' lv' st' h'
      | _ => none
theorem px_act_mono {code : Nat → Option px_A} (hT : px_frT code) {pc : Nat} {act : px_A} (hc : code pc = some act) {cb cb' : px_C} (hcb : ∀ j as h r, cb j as h = some r → cb' j as h = some r) {lv : px_L} {st : List Value} {h : px_H} {r : px_N} (hr : act cb pc lv st h = some r) : act cb' pc lv st h = some r := by
  have h1 := (hT pc act hc none [] cb cb' (fun j as h v h' _ q => ⟨hcb j as h (v, h') q, trivial⟩) pc lv st h r trivial hr).1
  have e : px_lfN none [] r = r := by rcases r with ⟨a, b, c, d⟩ | ⟨a, b⟩ <;> rfl
  rw [e] at h1
  exact h1
theorem px_PW.one {d : Nat} {code : Nat → Option px_A} {Q : Option Value → px_H → Prop} {pc pc' : Nat} {lv lv' : px_L} {st st' : List Value} {h h' : px_H} {act : px_A} (hc : code pc = some act) (hs : ∀ n, act (px_run px_codes d n) pc lv st h = some (.inl (pc', lv', st', h'))) (k : px_PW d code Q pc' lv' st' h') (hT : px_frT code) : px_PW d code Q pc lv st h := by
  obtain ⟨n, v, h1, e1, e2⟩ := k
  refine ⟨n + 1, v, h1, ?_, e2⟩
  unfold px_loop
  rw [hc]
  dsimp only
  rw [hs (n + 1)]
  exact (px_fr_loop (b := none) (X := []) hT (px_codes_fr none [] (Nat.le_refl d) (Nat.le_succ n)) n n pc' lv' st' h' v h1 (Nat.le_refl n) trivial e1).1
theorem px_PW.steps {d : Nat} {code : Nat → Option px_A} (hT : px_frT code) {Q : Option Value → px_H → Prop} : ∀ (k : Nat) {pc pc' : Nat} {lv lv' : px_L} {st st' : List Value} {h h' : px_H}, px_steps code k pc lv st h = some (pc', lv', st', h') → px_PW d code Q pc' lv' st' h' → px_PW d code Q pc lv st h
  | 0, _, _, _, _, _, _, _, _, hs, k => by cases hs; exact k
  | m + 1, pc, pc', lv, lv', st, st', h, h', hs, k => by
    unfold px_steps at hs
    split at hs
    · cases hs
    · next act hact =>
      split at hs
      · next pc1 lv1 st1 h1 ha =>
        exact px_PW.one hact (fun n => px_act_mono hT hact (fun j as h r q => by cases q) ha) (px_PW.steps hT m hs k) hT
      · cases hs
theorem px_PW.ret {d : Nat} {code : Nat → Option px_A} (hT : px_frT code) {Q : Option Value → px_H → Prop} {pc : Nat} {lv : px_L} {st : List Value} {h h' : px_H} {v : Option Value} {act : px_A} (hc : code pc = some act) (ha : act px_nocall pc lv st h = some (.inr (v, h'))) (hQ : Q v h') : px_PW d code Q pc lv st h := by
  refine ⟨1, v, h', ?_, hQ⟩
  unfold px_loop
  rw [hc]
  dsimp only
  rw [px_act_mono hT hc (fun j as h r q => by cases q) ha]
theorem px_PW.br {d : Nat} {code : Nat → Option px_A} {Q : Option Value → px_H → Prop} {b : Bool} {t e : Nat} {lv : px_L} {st : List Value} {h : px_H} (ht : b = true → px_PW d code Q t lv st h) (hf : b = false → px_PW d code Q e lv st h) : px_PW d code Q (cond b t e) lv st h := by
  cases b with
  | true => exact ht rfl
  | false => exact hf rfl
/-- a call of which one knows what it does -/
theorem px_PW.callV {d d1 : Nat} {code : Nat → Option px_A} (hT : px_frT code) {Q Q1 : Option Value → px_H → Prop} {pc j m ci b : Nat} {as rest : List Value} {lv : px_L} {st : List Value} {h : px_H} (hc : code pc = some (px_callV j m ci)) (hp : px_pop (m + 1) st [] = some (.ref b :: as, rest)) (hO : px_isO h b ci = true) (h8 : Nat.ble (px_cat rest) 8 = true) (hM : px_PM d1 j (.ref b :: as) h Q1) (hd : d1 ≤ d)
    (k : ∀ v h1, Q1 v h1 → px_PW d code Q (pc + 3) lv (px_tl v rest) h1) : px_PW d code Q pc lv st h := by
  obtain ⟨n1, v1, h1, e1, q1⟩ := hM
  obtain ⟨n, v, h2, e2, q2⟩ := k v1 h1 q1
  refine ⟨max n1 n + 1, v, h2, ?_, q2⟩
  unfold px_loop
  rw [hc]
  dsimp only
  have e3 : px_callV j m ci (px_run px_codes d (max n1 n + 1)) pc lv st h = some (.inl (pc + 3, lv, px_tl v1 rest, h1)) := by
    unfold px_callV
    rw [hp]
    dsimp only
    rw [hO, h8, px_mono hd (show n1 ≤ max n1 n + 1 by omega) e1]
    rfl
  rw [e3]
  exact (px_fr_loop (b := none) (X := []) hT (px_codes_fr none [] (Nat.le_refl d) (show n ≤ max n1 n + 1 by omega)) n (max n1 n) (pc + 3) lv (px_tl v1 rest) h1 v h2 (by omega) trivial e2).1
theorem px_PW.callS {d d1 : Nat} {code : Nat → Option px_A} (hT : px_frT code) {Q Q1 : Option Value → px_H → Prop} {pc j m : Nat} {as rest : List Value} {lv : px_L} {st : List Value} {h : px_H} (hc : code pc = some (px_callS j m)) (hp : px_pop m st [] = some (as, rest)) (h8 : Nat.ble (px_cat rest) 8 = true) (hM : px_PM d1 j as h Q1) (hd : d1 ≤ d)
    (k : ∀ v h1, Q1 v h1 → px_PW d code Q (pc + 3) lv (px_tl v rest) h1) : px_PW d code Q pc lv st h := by
  obtain ⟨n1, v1, h1, e1, q1⟩ := hM
  obtain ⟨n, v, h2, e2, q2⟩ := k v1 h1 q1
  refine ⟨max n1 n + 1, v, h2, ?_, q2⟩
  unfold px_loop
  rw [hc]
  dsimp only
  have e3 : px_callS j m (px_run px_codes d (max n1 n + 1)) pc lv st h = some (.inl (pc + 3, lv, px_tl v1 rest, h1)) := by
    unfold px_callS
    rw [hp]
    dsimp only
    rw [h8, px_mono hd (show n1 ≤ max n1 n + 1 by omega) e1]
    rfl
  rw [e3]
  exact (px_fr_loop (b := none) (X := []) hT (px_codes_fr none [] (Nat.le_refl d) (show n ≤ max n1 n + 1 by omega)) n (max n1 n) (pc + 3) lv (px_tl v1 rest) h1 v h2 (by omega) trivial e2).1
