/-- of m places from k on those of which p holds, and n -/
def zz_cnt (p : Nat → Bool) : Nat → Nat → Nat → Nat
  | 0, _, n => n
  | m + 1, k, n => zz_cnt p m (k + 1) (if p k = true then n + 1 else n)
theorem zz_cnt_congr {p q : Nat → Bool} : ∀ (m k n : Nat), (∀ j : Nat, k ≤ j → j < k + m → p j = q j) → zz_cnt p m k n = zz_cnt q m k n
  | 0, _, _, _ => rfl
  | m + 1, k, n, h => by
    unfold zz_cnt
    rw [h k (Nat.le_refl k) (by omega)]
    exact zz_cnt_congr m (k + 1) _ (fun j h1 h2 => h j (by omega) (by omega))
theorem zz_cnt_le (p : Nat → Bool) : ∀ (m k n : Nat), zz_cnt p m k n ≤ n + m
  | 0, _, n => Nat.le_refl n
  | m + 1, k, n => by
    unfold zz_cnt
    split
    · have h := zz_cnt_le p m (k + 1) (n + 1); omega
    · have h := zz_cnt_le p m (k + 1) n; omega
def zz_mn (g : Nat → Int32) : Nat → Nat → Int32 → Int32
  | 0, _, a => a
  | m + 1, k, a => zz_mn g m (k + 1) (if a ≤ g k then a else g k)
def s_ap (a b : Int32) : Int32 := if b ≤ a then a - b else b - a
def s_gp1 (l x y : Int32) : Int32 := if (if l ≤ x then l else x) ≤ y then (if l ≤ x then l else x) else y
def zz_gp (Ar Br : Nat → Int32) (from_ to : Int32) : Nat → Nat → Int32 → Int32
  | 0, _, a => a
  | m + 1, k, a => zz_gp Ar Br from_ to m (k + 1) (s_gp1 a (s_ap (Ar k) from_) (s_ap (Ar k + Br k) to))
theorem cuts_loop {Z f A B : Nat → Int32} {F : Nat → Nat → Int32} {P : Nat} {Ar Br : Nat → Int32} (hP : P ≤ 100) (hAB : ∀ j : Nat, j < P → A j = Ar j ∧ B j = Br j)  {Q : Option Value → px_H → Prop} : ∀ (m k1 n : Nat), k1 + m = P → (∀ k : Nat, px_PW 0 pc_144 Q 41 [some (.ref 1000), some (.int (nI (zz_cnt (fun k => decide (¬ (f 1 ≤ Br k))) m k1 n))), some (.int (nI k))] [] ([], px_MH (upd Z 5 (nI P)) (va_up (va_up (va_up F 0 f) 8 A) 9 B))) → px_PW 0 pc_144 Q 4 [some (.ref 1000), some (.int (nI n)), some (.int (nI k1))] [] ([], px_MH (upd Z 5 (nI P)) (va_up (va_up (va_up F 0 f) 8 A) 9 B))
  | m, k, n, hk, H => by
    refine px_PW.steps kt_144.2 4 rfl ?_
    refine px_PW.br (fun c0 => ?_) (fun c0 => ?_)
    · have c0 : (nI P) ≤ (nI k) := of_decide_eq_true c0
      have c0 : P ≤ k := by exact (nI_leI (a := P) (b := k) (by omega) (by omega)).mp c0
      obtain rfl : m = 0 := by omega
      exact H _
    · have c0 : ¬ ((nI P) ≤ (nI k)) := of_decide_eq_false c0
      have c0 : ¬ (P ≤ k) := fun q => c0 (by exact (nI_leI (a := P) (b := k) (by omega) (by omega)).mpr q)
      obtain ⟨m2, rfl⟩ : ∃ m2, m = m2 + 1 := ⟨m - 1, by omega⟩
      refine px_PW.steps kt_144.2 4 rfl ?_
      refine px_PW.aldN kt_144.2 rfl rfl (n := k) (rfl) (by omega) ?_
      rw [show (va_up (va_up (va_up F 0 f) 8 A) 9 B) 9 k = Br k from (hAB k (by omega)).2]
      refine px_PW.steps kt_144.2 3 rfl ?_
      refine px_PW.steps kt_144.2 1 rfl ?_
      refine px_PW.steps kt_144.2 1 rfl ?_
      refine px_PW.br (fun c1 => ?_) (fun c1 => ?_)
      · have c1 : (f 1) ≤ (Br k) := of_decide_eq_true c1
        refine px_PW.steps kt_144.2 5 rfl ?_
        have e0 : zz_cnt (fun k => decide (¬ (f 1 ≤ Br k))) (m2 + 1) k n = zz_cnt (fun k => decide (¬ (f 1 ≤ Br k))) m2 (k + 1) n := congrArg (zz_cnt (fun k => decide (¬ (f 1 ≤ Br k))) m2 (k + 1)) (if_neg (fun h => (fun q : ¬ (f 1 ≤ Br k) => q c1) (of_decide_eq_true h)))
        have g := cuts_loop hP hAB (Z := Z) (f := f) (F := F) (Q := Q) m2 (k + 1) n (by omega) (fun k9 => by have h := H k9; rw [e0] at h; exact h)
        refine px_PW.lc (lv' := [some (.ref 1000), some (.int (nI n)), some (.int (nI (k + 1)))]) (show ([some (.ref 1000), some (.int ((nI n) + 0)), some (.int ((nI k) + 1))] : px_L) = _ from by rw [← nI_succ k, Int32.add_zero]) ?_
        exact g
      · have c1 : ¬ ((f 1) ≤ (Br k)) := of_decide_eq_false c1
        refine px_PW.steps kt_144.2 6 rfl ?_
        have e0 : zz_cnt (fun k => decide (¬ (f 1 ≤ Br k))) (m2 + 1) k n = zz_cnt (fun k => decide (¬ (f 1 ≤ Br k))) m2 (k + 1) (n + 1) := congrArg (zz_cnt (fun k => decide (¬ (f 1 ≤ Br k))) m2 (k + 1)) (if_pos (decide_eq_true (show ¬ (f 1 ≤ Br k) from c1)))
        have g := cuts_loop hP hAB (Z := Z) (f := f) (F := F) (Q := Q) m2 (k + 1) (n + 1) (by omega) (fun k9 => by have h := H k9; rw [e0] at h; exact h)
        refine px_PW.lc (lv' := [some (.ref 1000), some (.int (nI (n + 1))), some (.int (nI (k + 1)))]) (show ([some (.ref 1000), some (.int ((nI n) + 1)), some (.int ((nI k) + 1))] : px_L) = _ from by rw [← nI_succ k, ← nI_succ n]) ?_
        exact g
theorem mm_cuts {Z f A B : Nat → Int32} {F : Nat → Nat → Int32} {P : Nat} {Ar Br : Nat → Int32} (hP : P ≤ 100) (hAB : ∀ j : Nat, j < P → A j = Ar j ∧ B j = Br j)  : px_PM 1 144 [.ref 1000] ([], px_MH (upd Z 5 (nI P)) (va_up (va_up (va_up F 0 f) 8 A) 9 B)) (fun r h' => r = some (.int (nI (zz_cnt (fun k => decide (¬ (f 1 ≤ Br k))) (P) 0 0))) ∧ h' = ([], px_MH (upd Z 5 (nI P)) (va_up (va_up (va_up F 0 f) 8 A) 9 B))) := by
  refine px_PM.start (nL := 3) (code := pc_144) rfl rfl ?_
  refine px_PW.steps kt_144.2 4 rfl ?_
  refine cuts_loop hP hAB (P) 0 0 (by omega) (fun k => ?_)
  refine px_PW.steps kt_144.2 1 rfl ?_
  exact px_PW.ret kt_144.2 rfl rfl ⟨rfl, rfl⟩
theorem halves_loop {Z f A B : Nat → Int32} {F : Nat → Nat → Int32} {P : Nat} {Ar Br : Nat → Int32} (hP : P ≤ 100) (hAB : ∀ j : Nat, j < P → A j = Ar j ∧ B j = Br j)  {Q : Option Value → px_H → Prop} : ∀ (m k1 n : Nat), k1 + m = P → (∀ k : Nat, px_PW 0 pc_145 Q 45 [some (.ref 1000), some (.int (nI (zz_cnt (fun k => decide (¬ (f 1 < 2 * Br k + 3))) m k1 n))), some (.int (nI k))] [] ([], px_MH (upd Z 5 (nI P)) (va_up (va_up (va_up F 0 f) 8 A) 9 B))) → px_PW 0 pc_145 Q 4 [some (.ref 1000), some (.int (nI n)), some (.int (nI k1))] [] ([], px_MH (upd Z 5 (nI P)) (va_up (va_up (va_up F 0 f) 8 A) 9 B))
  | m, k, n, hk, H => by
    refine px_PW.steps kt_145.2 4 rfl ?_
    refine px_PW.br (fun c0 => ?_) (fun c0 => ?_)
    · have c0 : (nI P) ≤ (nI k) := of_decide_eq_true c0
      have c0 : P ≤ k := by exact (nI_leI (a := P) (b := k) (by omega) (by omega)).mp c0
      obtain rfl : m = 0 := by omega
      exact H _
    · have c0 : ¬ ((nI P) ≤ (nI k)) := of_decide_eq_false c0
      have c0 : ¬ (P ≤ k) := fun q => c0 (by exact (nI_leI (a := P) (b := k) (by omega) (by omega)).mpr q)
      obtain ⟨m2, rfl⟩ : ∃ m2, m = m2 + 1 := ⟨m - 1, by omega⟩
      refine px_PW.steps kt_145.2 5 rfl ?_
      refine px_PW.aldN kt_145.2 rfl rfl (n := k) (rfl) (by omega) ?_
      rw [show (va_up (va_up (va_up F 0 f) 8 A) 9 B) 9 k = Br k from (hAB k (by omega)).2]
      refine px_PW.steps kt_145.2 6 rfl ?_
      refine px_PW.steps kt_145.2 1 rfl ?_
      refine px_PW.steps kt_145.2 1 rfl ?_
      refine px_PW.br (fun c1 => ?_) (fun c1 => ?_)
      · have c1 : (f 1) < ((2 * (Br k)) + 3) := of_decide_eq_true c1
        refine px_PW.steps kt_145.2 5 rfl ?_
        have e0 : zz_cnt (fun k => decide (¬ (f 1 < 2 * Br k + 3))) (m2 + 1) k n = zz_cnt (fun k => decide (¬ (f 1 < 2 * Br k + 3))) m2 (k + 1) n := congrArg (zz_cnt (fun k => decide (¬ (f 1 < 2 * Br k + 3))) m2 (k + 1)) (if_neg (fun h => (fun q : ¬ (f 1 < 2 * Br k + 3) => q c1) (of_decide_eq_true h)))
        have g := halves_loop hP hAB (Z := Z) (f := f) (F := F) (Q := Q) m2 (k + 1) n (by omega) (fun k9 => by have h := H k9; rw [e0] at h; exact h)
        refine px_PW.lc (lv' := [some (.ref 1000), some (.int (nI n)), some (.int (nI (k + 1)))]) (show ([some (.ref 1000), some (.int ((nI n) + 0)), some (.int ((nI k) + 1))] : px_L) = _ from by rw [← nI_succ k, Int32.add_zero]) ?_
        exact g
      · have c1 : ¬ ((f 1) < ((2 * (Br k)) + 3)) := of_decide_eq_false c1
        refine px_PW.steps kt_145.2 6 rfl ?_
        have e0 : zz_cnt (fun k => decide (¬ (f 1 < 2 * Br k + 3))) (m2 + 1) k n = zz_cnt (fun k => decide (¬ (f 1 < 2 * Br k + 3))) m2 (k + 1) (n + 1) := congrArg (zz_cnt (fun k => decide (¬ (f 1 < 2 * Br k + 3))) m2 (k + 1)) (if_pos (decide_eq_true (show ¬ (f 1 < 2 * Br k + 3) from c1)))
        have g := halves_loop hP hAB (Z := Z) (f := f) (F := F) (Q := Q) m2 (k + 1) (n + 1) (by omega) (fun k9 => by have h := H k9; rw [e0] at h; exact h)
        refine px_PW.lc (lv' := [some (.ref 1000), some (.int (nI (n + 1))), some (.int (nI (k + 1)))]) (show ([some (.ref 1000), some (.int ((nI n) + 1)), some (.int ((nI k) + 1))] : px_L) = _ from by rw [← nI_succ k, ← nI_succ n]) ?_
        exact g
theorem mm_halves {Z f A B : Nat → Int32} {F : Nat → Nat → Int32} {P : Nat} {Ar Br : Nat → Int32} (hP : P ≤ 100) (hAB : ∀ j : Nat, j < P → A j = Ar j ∧ B j = Br j)  : px_PM 1 145 [.ref 1000] ([], px_MH (upd Z 5 (nI P)) (va_up (va_up (va_up F 0 f) 8 A) 9 B)) (fun r h' => r = some (.int (nI (zz_cnt (fun k => decide (¬ (f 1 < 2 * Br k + 3))) (P) 0 0))) ∧ h' = ([], px_MH (upd Z 5 (nI P)) (va_up (va_up (va_up F 0 f) 8 A) 9 B))) := by
  refine px_PM.start (nL := 3) (code := pc_145) rfl rfl ?_
  refine px_PW.steps kt_145.2 4 rfl ?_
  refine halves_loop hP hAB (P) 0 0 (by omega) (fun k => ?_)
  refine px_PW.steps kt_145.2 1 rfl ?_
  exact px_PW.ret kt_145.2 rfl rfl ⟨rfl, rfl⟩
theorem joints_loop {Z f A B : Nat → Int32} {F : Nat → Nat → Int32} {P : Nat} {Ar Br : Nat → Int32} (hP : P ≤ 100) (hAB : ∀ j : Nat, j < P → A j = Ar j ∧ B j = Br j) {from_ : Int32} {to : Int32} {Q : Option Value → px_H → Prop} : ∀ (m k1 n : Nat), k1 + m = P - 1 → (∀ k : Nat, px_PW 0 pc_148 Q 62 [some (.ref 1000), some (.int from_), some (.int to), some (.int (nI (zz_cnt (fun k => decide (¬ (to < Ar k + Br k) ∧ ¬ (Ar (k + 1) < from_))) m k1 n))), some (.int (nI k))] [] ([], px_MH (upd Z 5 (nI P)) (va_up (va_up (va_up F 0 f) 8 A) 9 B))) → px_PW 0 pc_148 Q 5 [some (.ref 1000), some (.int from_), some (.int to), some (.int (nI n)), some (.int (nI k1))] [] ([], px_MH (upd Z 5 (nI P)) (va_up (va_up (va_up F 0 f) 8 A) 9 B))
  | m, k, n, hk, H => by
    refine px_PW.steps kt_148.2 6 rfl ?_
    refine px_PW.br (fun c0 => ?_) (fun c0 => ?_)
    · have c0 : (nI P) ≤ ((nI k) + 1) := of_decide_eq_true c0
      have c0 : P ≤ k + 1 := by rw [← nI_succ] at c0; exact (nI_leI (a := P) (b := k + 1) (by omega) (by omega)).mp c0
      obtain rfl : m = 0 := by omega
      exact H _
    · have c0 : ¬ ((nI P) ≤ ((nI k) + 1)) := of_decide_eq_false c0
      have c0 : ¬ (P ≤ k + 1) := fun q => c0 (by rw [← nI_succ]; exact (nI_leI (a := P) (b := k + 1) (by omega) (by omega)).mpr q)
      obtain ⟨m2, rfl⟩ : ∃ m2, m = m2 + 1 := ⟨m - 1, by omega⟩
      refine px_PW.steps kt_148.2 4 rfl ?_
      refine px_PW.aldN kt_148.2 rfl rfl (n := k) (rfl) (by omega) ?_
      rw [show (va_up (va_up (va_up F 0 f) 8 A) 9 B) 8 k = Ar k from (hAB k (by omega)).1]
      refine px_PW.steps kt_148.2 3 rfl ?_
      refine px_PW.aldN kt_148.2 rfl rfl (n := k) (rfl) (by omega) ?_
      rw [show (va_up (va_up (va_up F 0 f) 8 A) 9 B) 9 k = Br k from (hAB k (by omega)).2]
      refine px_PW.steps kt_148.2 3 rfl ?_
      refine px_PW.br (fun c1 => ?_) (fun c1 => ?_)
      · have c1 : to < ((Ar k) + (Br k)) := of_decide_eq_true c1
        refine px_PW.steps kt_148.2 5 rfl ?_
        have e0 : zz_cnt (fun k => decide (¬ (to < Ar k + Br k) ∧ ¬ (Ar (k + 1) < from_))) (m2 + 1) k n = zz_cnt (fun k => decide (¬ (to < Ar k + Br k) ∧ ¬ (Ar (k + 1) < from_))) m2 (k + 1) n := congrArg (zz_cnt (fun k => decide (¬ (to < Ar k + Br k) ∧ ¬ (Ar (k + 1) < from_))) m2 (k + 1)) (if_neg (fun h => (fun q : ¬ (to < Ar k + Br k) ∧ ¬ (Ar (k + 1) < from_) => q.1 c1) (of_decide_eq_true h)))
        have g := joints_loop hP hAB (Z := Z) (f := f) (F := F) (from_ := from_) (to := to) (Q := Q) m2 (k + 1) n (by omega) (fun k9 => by have h := H k9; rw [e0] at h; exact h)
        refine px_PW.lc (lv' := [some (.ref 1000), some (.int from_), some (.int to), some (.int (nI n)), some (.int (nI (k + 1)))]) (show ([some (.ref 1000), some (.int from_), some (.int to), some (.int ((nI n) + 0)), some (.int ((nI k) + 1))] : px_L) = _ from by rw [← nI_succ k, Int32.add_zero]) ?_
        exact g
      · have c1 : ¬ (to < ((Ar k) + (Br k))) := of_decide_eq_false c1
        refine px_PW.steps kt_148.2 5 rfl ?_
        refine px_PW.aldN kt_148.2 rfl rfl (n := k + 1) ((nI_succ k).symm) (by omega) ?_
        rw [show (va_up (va_up (va_up F 0 f) 8 A) 9 B) 8 (k + 1) = Ar (k + 1) from (hAB (k + 1) (by omega)).1]
        refine px_PW.steps kt_148.2 2 rfl ?_
        refine px_PW.br (fun c2 => ?_) (fun c2 => ?_)
        · have c2 : (Ar (k + 1)) < from_ := of_decide_eq_true c2
          refine px_PW.steps kt_148.2 5 rfl ?_
          have e0 : zz_cnt (fun k => decide (¬ (to < Ar k + Br k) ∧ ¬ (Ar (k + 1) < from_))) (m2 + 1) k n = zz_cnt (fun k => decide (¬ (to < Ar k + Br k) ∧ ¬ (Ar (k + 1) < from_))) m2 (k + 1) n := congrArg (zz_cnt (fun k => decide (¬ (to < Ar k + Br k) ∧ ¬ (Ar (k + 1) < from_))) m2 (k + 1)) (if_neg (fun h => (fun q : ¬ (to < Ar k + Br k) ∧ ¬ (Ar (k + 1) < from_) => q.2 c2) (of_decide_eq_true h)))
          have g := joints_loop hP hAB (Z := Z) (f := f) (F := F) (from_ := from_) (to := to) (Q := Q) m2 (k + 1) n (by omega) (fun k9 => by have h := H k9; rw [e0] at h; exact h)
          refine px_PW.lc (lv' := [some (.ref 1000), some (.int from_), some (.int to), some (.int (nI n)), some (.int (nI (k + 1)))]) (show ([some (.ref 1000), some (.int from_), some (.int to), some (.int ((nI n) + 0)), some (.int ((nI k) + 1))] : px_L) = _ from by rw [← nI_succ k, Int32.add_zero]) ?_
          exact g
        · have c2 : ¬ ((Ar (k + 1)) < from_) := of_decide_eq_false c2
          refine px_PW.steps kt_148.2 6 rfl ?_
          have e0 : zz_cnt (fun k => decide (¬ (to < Ar k + Br k) ∧ ¬ (Ar (k + 1) < from_))) (m2 + 1) k n = zz_cnt (fun k => decide (¬ (to < Ar k + Br k) ∧ ¬ (Ar (k + 1) < from_))) m2 (k + 1) (n + 1) := congrArg (zz_cnt (fun k => decide (¬ (to < Ar k + Br k) ∧ ¬ (Ar (k + 1) < from_))) m2 (k + 1)) (if_pos (decide_eq_true (show ¬ (to < Ar k + Br k) ∧ ¬ (Ar (k + 1) < from_) from ⟨c1, c2⟩)))
          have g := joints_loop hP hAB (Z := Z) (f := f) (F := F) (from_ := from_) (to := to) (Q := Q) m2 (k + 1) (n + 1) (by omega) (fun k9 => by have h := H k9; rw [e0] at h; exact h)
          refine px_PW.lc (lv' := [some (.ref 1000), some (.int from_), some (.int to), some (.int (nI (n + 1))), some (.int (nI (k + 1)))]) (show ([some (.ref 1000), some (.int from_), some (.int to), some (.int ((nI n) + 1)), some (.int ((nI k) + 1))] : px_L) = _ from by rw [← nI_succ k, ← nI_succ n]) ?_
          exact g
theorem mm_joints {Z f A B : Nat → Int32} {F : Nat → Nat → Int32} {P : Nat} {Ar Br : Nat → Int32} (hP : P ≤ 100) (hAB : ∀ j : Nat, j < P → A j = Ar j ∧ B j = Br j) (from_ : Int32) (to : Int32) : px_PM 1 148 [.ref 1000, .int from_, .int to] ([], px_MH (upd Z 5 (nI P)) (va_up (va_up (va_up F 0 f) 8 A) 9 B)) (fun r h' => r = some (.int (nI (zz_cnt (fun k => decide (¬ (to < Ar k + Br k) ∧ ¬ (Ar (k + 1) < from_))) (P - 1) 0 0))) ∧ h' = ([], px_MH (upd Z 5 (nI P)) (va_up (va_up (va_up F 0 f) 8 A) 9 B))) := by
  refine px_PM.start (nL := 5) (code := pc_148) rfl rfl ?_
  refine px_PW.steps kt_148.2 4 rfl ?_
  refine joints_loop hP hAB (P - 1) 0 0 (by omega) (fun k => ?_)
  refine px_PW.steps kt_148.2 1 rfl ?_
  exact px_PW.ret kt_148.2 rfl rfl ⟨rfl, rfl⟩
theorem touches_loop {Z f A B : Nat → Int32} {F : Nat → Nat → Int32} {P : Nat} {Ar Br : Nat → Int32} (hP : P ≤ 100) (hAB : ∀ j : Nat, j < P → A j = Ar j ∧ B j = Br j) {from_ : Int32} {to : Int32} {Q : Option Value → px_H → Prop} : ∀ (m k1 n : Nat), k1 + m = P → (∀ k : Nat, px_PW 0 pc_151 Q 58 [some (.ref 1000), some (.int from_), some (.int to), some (.int (nI (zz_cnt (fun k => decide (¬ (to ≤ Ar k) ∧ ¬ (Ar k + Br k ≤ from_))) m k1 n))), some (.int (nI k))] [] ([], px_MH (upd Z 5 (nI P)) (va_up (va_up (va_up F 0 f) 8 A) 9 B))) → px_PW 0 pc_151 Q 5 [some (.ref 1000), some (.int from_), some (.int to), some (.int (nI n)), some (.int (nI k1))] [] ([], px_MH (upd Z 5 (nI P)) (va_up (va_up (va_up F 0 f) 8 A) 9 B))
  | m, k, n, hk, H => by
    refine px_PW.steps kt_151.2 4 rfl ?_
    refine px_PW.br (fun c0 => ?_) (fun c0 => ?_)
    · have c0 : (nI P) ≤ (nI k) := of_decide_eq_true c0
      have c0 : P ≤ k := by exact (nI_leI (a := P) (b := k) (by omega) (by omega)).mp c0
      obtain rfl : m = 0 := by omega
      exact H _
    · have c0 : ¬ ((nI P) ≤ (nI k)) := of_decide_eq_false c0
      have c0 : ¬ (P ≤ k) := fun q => c0 (by exact (nI_leI (a := P) (b := k) (by omega) (by omega)).mpr q)
      obtain ⟨m2, rfl⟩ : ∃ m2, m = m2 + 1 := ⟨m - 1, by omega⟩
      refine px_PW.steps kt_151.2 4 rfl ?_
      refine px_PW.aldN kt_151.2 rfl rfl (n := k) (rfl) (by omega) ?_
      rw [show (va_up (va_up (va_up F 0 f) 8 A) 9 B) 8 k = Ar k from (hAB k (by omega)).1]
      refine px_PW.steps kt_151.2 2 rfl ?_
      refine px_PW.br (fun c1 => ?_) (fun c1 => ?_)
      · have c1 : to ≤ (Ar k) := of_decide_eq_true c1
        refine px_PW.steps kt_151.2 5 rfl ?_
        have e0 : zz_cnt (fun k => decide (¬ (to ≤ Ar k) ∧ ¬ (Ar k + Br k ≤ from_))) (m2 + 1) k n = zz_cnt (fun k => decide (¬ (to ≤ Ar k) ∧ ¬ (Ar k + Br k ≤ from_))) m2 (k + 1) n := congrArg (zz_cnt (fun k => decide (¬ (to ≤ Ar k) ∧ ¬ (Ar k + Br k ≤ from_))) m2 (k + 1)) (if_neg (fun h => (fun q : ¬ (to ≤ Ar k) ∧ ¬ (Ar k + Br k ≤ from_) => q.1 c1) (of_decide_eq_true h)))
        have g := touches_loop hP hAB (Z := Z) (f := f) (F := F) (from_ := from_) (to := to) (Q := Q) m2 (k + 1) n (by omega) (fun k9 => by have h := H k9; rw [e0] at h; exact h)
        refine px_PW.lc (lv' := [some (.ref 1000), some (.int from_), some (.int to), some (.int (nI n)), some (.int (nI (k + 1)))]) (show ([some (.ref 1000), some (.int from_), some (.int to), some (.int ((nI n) + 0)), some (.int ((nI k) + 1))] : px_L) = _ from by rw [← nI_succ k, Int32.add_zero]) ?_
        exact g
      · have c1 : ¬ (to ≤ (Ar k)) := of_decide_eq_false c1
        refine px_PW.steps kt_151.2 3 rfl ?_
        refine px_PW.aldN kt_151.2 rfl rfl (n := k) (rfl) (by omega) ?_
        rw [show (va_up (va_up (va_up F 0 f) 8 A) 9 B) 8 k = Ar k from (hAB k (by omega)).1]
        refine px_PW.steps kt_151.2 3 rfl ?_
        refine px_PW.aldN kt_151.2 rfl rfl (n := k) (rfl) (by omega) ?_
        rw [show (va_up (va_up (va_up F 0 f) 8 A) 9 B) 9 k = Br k from (hAB k (by omega)).2]
        refine px_PW.steps kt_151.2 3 rfl ?_
        refine px_PW.br (fun c2 => ?_) (fun c2 => ?_)
        · have c2 : ((Ar k) + (Br k)) ≤ from_ := of_decide_eq_true c2
          refine px_PW.steps kt_151.2 5 rfl ?_
          have e0 : zz_cnt (fun k => decide (¬ (to ≤ Ar k) ∧ ¬ (Ar k + Br k ≤ from_))) (m2 + 1) k n = zz_cnt (fun k => decide (¬ (to ≤ Ar k) ∧ ¬ (Ar k + Br k ≤ from_))) m2 (k + 1) n := congrArg (zz_cnt (fun k => decide (¬ (to ≤ Ar k) ∧ ¬ (Ar k + Br k ≤ from_))) m2 (k + 1)) (if_neg (fun h => (fun q : ¬ (to ≤ Ar k) ∧ ¬ (Ar k + Br k ≤ from_) => q.2 c2) (of_decide_eq_true h)))
          have g := touches_loop hP hAB (Z := Z) (f := f) (F := F) (from_ := from_) (to := to) (Q := Q) m2 (k + 1) n (by omega) (fun k9 => by have h := H k9; rw [e0] at h; exact h)
          refine px_PW.lc (lv' := [some (.ref 1000), some (.int from_), some (.int to), some (.int (nI n)), some (.int (nI (k + 1)))]) (show ([some (.ref 1000), some (.int from_), some (.int to), some (.int ((nI n) + 0)), some (.int ((nI k) + 1))] : px_L) = _ from by rw [← nI_succ k, Int32.add_zero]) ?_
          exact g
        · have c2 : ¬ (((Ar k) + (Br k)) ≤ from_) := of_decide_eq_false c2
          refine px_PW.steps kt_151.2 6 rfl ?_
          have e0 : zz_cnt (fun k => decide (¬ (to ≤ Ar k) ∧ ¬ (Ar k + Br k ≤ from_))) (m2 + 1) k n = zz_cnt (fun k => decide (¬ (to ≤ Ar k) ∧ ¬ (Ar k + Br k ≤ from_))) m2 (k + 1) (n + 1) := congrArg (zz_cnt (fun k => decide (¬ (to ≤ Ar k) ∧ ¬ (Ar k + Br k ≤ from_))) m2 (k + 1)) (if_pos (decide_eq_true (show ¬ (to ≤ Ar k) ∧ ¬ (Ar k + Br k ≤ from_) from ⟨c1, c2⟩)))
          have g := touches_loop hP hAB (Z := Z) (f := f) (F := F) (from_ := from_) (to := to) (Q := Q) m2 (k + 1) (n + 1) (by omega) (fun k9 => by have h := H k9; rw [e0] at h; exact h)
          refine px_PW.lc (lv' := [some (.ref 1000), some (.int from_), some (.int to), some (.int (nI (n + 1))), some (.int (nI (k + 1)))]) (show ([some (.ref 1000), some (.int from_), some (.int to), some (.int ((nI n) + 1)), some (.int ((nI k) + 1))] : px_L) = _ from by rw [← nI_succ k, ← nI_succ n]) ?_
          exact g
theorem mm_touches {Z f A B : Nat → Int32} {F : Nat → Nat → Int32} {P : Nat} {Ar Br : Nat → Int32} (hP : P ≤ 100) (hAB : ∀ j : Nat, j < P → A j = Ar j ∧ B j = Br j) (from_ : Int32) (to : Int32) : px_PM 1 151 [.ref 1000, .int from_, .int to] ([], px_MH (upd Z 5 (nI P)) (va_up (va_up (va_up F 0 f) 8 A) 9 B)) (fun r h' => r = some (.int (nI (zz_cnt (fun k => decide (¬ (to ≤ Ar k) ∧ ¬ (Ar k + Br k ≤ from_))) (P) 0 0))) ∧ h' = ([], px_MH (upd Z 5 (nI P)) (va_up (va_up (va_up F 0 f) 8 A) 9 B))) := by
  refine px_PM.start (nL := 5) (code := pc_151) rfl rfl ?_
  refine px_PW.steps kt_151.2 4 rfl ?_
  refine touches_loop hP hAB (P) 0 0 (by omega) (fun k => ?_)
  refine px_PW.steps kt_151.2 1 rfl ?_
  exact px_PW.ret kt_151.2 rfl rfl ⟨rfl, rfl⟩
theorem hides_loop {Z f A B : Nat → Int32} {F : Nat → Nat → Int32} {P : Nat} {Ar Br : Nat → Int32} (hP : P ≤ 100) (hAB : ∀ j : Nat, j < P → A j = Ar j ∧ B j = Br j) {from_ : Int32} {to : Int32} {Q : Option Value → px_H → Prop} : ∀ (m k1 n : Nat), k1 + m = P → (∀ k : Nat, px_PW 0 pc_152 Q 74 [some (.ref 1000), some (.int from_), some (.int to), some (.int (nI (zz_cnt (fun k => decide (¬ (f 1 ≤ Br k) ∧ ¬ (Ar k < from_) ∧ ¬ (to < Ar k + Br k))) m k1 n))), some (.int (nI k))] [] ([], px_MH (upd Z 5 (nI P)) (va_up (va_up (va_up F 0 f) 8 A) 9 B))) → px_PW 0 pc_152 Q 5 [some (.ref 1000), some (.int from_), some (.int to), some (.int (nI n)), some (.int (nI k1))] [] ([], px_MH (upd Z 5 (nI P)) (va_up (va_up (va_up F 0 f) 8 A) 9 B))
  | m, k, n, hk, H => by
    refine px_PW.steps kt_152.2 4 rfl ?_
    refine px_PW.br (fun c0 => ?_) (fun c0 => ?_)
    · have c0 : (nI P) ≤ (nI k) := of_decide_eq_true c0
      have c0 : P ≤ k := by exact (nI_leI (a := P) (b := k) (by omega) (by omega)).mp c0
      obtain rfl : m = 0 := by omega
      exact H _
    · have c0 : ¬ ((nI P) ≤ (nI k)) := of_decide_eq_false c0
      have c0 : ¬ (P ≤ k) := fun q => c0 (by exact (nI_leI (a := P) (b := k) (by omega) (by omega)).mpr q)
      obtain ⟨m2, rfl⟩ : ∃ m2, m = m2 + 1 := ⟨m - 1, by omega⟩
      refine px_PW.steps kt_152.2 4 rfl ?_
      refine px_PW.aldN kt_152.2 rfl rfl (n := k) (rfl) (by omega) ?_
      rw [show (va_up (va_up (va_up F 0 f) 8 A) 9 B) 9 k = Br k from (hAB k (by omega)).2]
      refine px_PW.steps kt_152.2 3 rfl ?_
      refine px_PW.steps kt_152.2 1 rfl ?_
      refine px_PW.steps kt_152.2 1 rfl ?_
      refine px_PW.br (fun c1 => ?_) (fun c1 => ?_)
      · have c1 : (f 1) ≤ (Br k) := of_decide_eq_true c1
        refine px_PW.steps kt_152.2 5 rfl ?_
        have e0 : zz_cnt (fun k => decide (¬ (f 1 ≤ Br k) ∧ ¬ (Ar k < from_) ∧ ¬ (to < Ar k + Br k))) (m2 + 1) k n = zz_cnt (fun k => decide (¬ (f 1 ≤ Br k) ∧ ¬ (Ar k < from_) ∧ ¬ (to < Ar k + Br k))) m2 (k + 1) n := congrArg (zz_cnt (fun k => decide (¬ (f 1 ≤ Br k) ∧ ¬ (Ar k < from_) ∧ ¬ (to < Ar k + Br k))) m2 (k + 1)) (if_neg (fun h => (fun q : ¬ (f 1 ≤ Br k) ∧ ¬ (Ar k < from_) ∧ ¬ (to < Ar k + Br k) => q.1 c1) (of_decide_eq_true h)))
        have g := hides_loop hP hAB (Z := Z) (f := f) (F := F) (from_ := from_) (to := to) (Q := Q) m2 (k + 1) n (by omega) (fun k9 => by have h := H k9; rw [e0] at h; exact h)
        refine px_PW.lc (lv' := [some (.ref 1000), some (.int from_), some (.int to), some (.int (nI n)), some (.int (nI (k + 1)))]) (show ([some (.ref 1000), some (.int from_), some (.int to), some (.int ((nI n) + 0)), some (.int ((nI k) + 1))] : px_L) = _ from by rw [← nI_succ k, Int32.add_zero]) ?_
        exact g
      · have c1 : ¬ ((f 1) ≤ (Br k)) := of_decide_eq_false c1
        refine px_PW.steps kt_152.2 3 rfl ?_
        refine px_PW.aldN kt_152.2 rfl rfl (n := k) (rfl) (by omega) ?_
        rw [show (va_up (va_up (va_up F 0 f) 8 A) 9 B) 8 k = Ar k from (hAB k (by omega)).1]
        refine px_PW.steps kt_152.2 2 rfl ?_
        refine px_PW.br (fun c2 => ?_) (fun c2 => ?_)
        · have c2 : (Ar k) < from_ := of_decide_eq_true c2
          refine px_PW.steps kt_152.2 5 rfl ?_
          have e0 : zz_cnt (fun k => decide (¬ (f 1 ≤ Br k) ∧ ¬ (Ar k < from_) ∧ ¬ (to < Ar k + Br k))) (m2 + 1) k n = zz_cnt (fun k => decide (¬ (f 1 ≤ Br k) ∧ ¬ (Ar k < from_) ∧ ¬ (to < Ar k + Br k))) m2 (k + 1) n := congrArg (zz_cnt (fun k => decide (¬ (f 1 ≤ Br k) ∧ ¬ (Ar k < from_) ∧ ¬ (to < Ar k + Br k))) m2 (k + 1)) (if_neg (fun h => (fun q : ¬ (f 1 ≤ Br k) ∧ ¬ (Ar k < from_) ∧ ¬ (to < Ar k + Br k) => q.2.1 c2) (of_decide_eq_true h)))
          have g := hides_loop hP hAB (Z := Z) (f := f) (F := F) (from_ := from_) (to := to) (Q := Q) m2 (k + 1) n (by omega) (fun k9 => by have h := H k9; rw [e0] at h; exact h)
          refine px_PW.lc (lv' := [some (.ref 1000), some (.int from_), some (.int to), some (.int (nI n)), some (.int (nI (k + 1)))]) (show ([some (.ref 1000), some (.int from_), some (.int to), some (.int ((nI n) + 0)), some (.int ((nI k) + 1))] : px_L) = _ from by rw [← nI_succ k, Int32.add_zero]) ?_
          exact g
        · have c2 : ¬ ((Ar k) < from_) := of_decide_eq_false c2
          refine px_PW.steps kt_152.2 3 rfl ?_
          refine px_PW.aldN kt_152.2 rfl rfl (n := k) (rfl) (by omega) ?_
          rw [show (va_up (va_up (va_up F 0 f) 8 A) 9 B) 8 k = Ar k from (hAB k (by omega)).1]
          refine px_PW.steps kt_152.2 3 rfl ?_
          refine px_PW.aldN kt_152.2 rfl rfl (n := k) (rfl) (by omega) ?_
          rw [show (va_up (va_up (va_up F 0 f) 8 A) 9 B) 9 k = Br k from (hAB k (by omega)).2]
          refine px_PW.steps kt_152.2 3 rfl ?_
          refine px_PW.br (fun c3 => ?_) (fun c3 => ?_)
          · have c3 : to < ((Ar k) + (Br k)) := of_decide_eq_true c3
            refine px_PW.steps kt_152.2 5 rfl ?_
            have e0 : zz_cnt (fun k => decide (¬ (f 1 ≤ Br k) ∧ ¬ (Ar k < from_) ∧ ¬ (to < Ar k + Br k))) (m2 + 1) k n = zz_cnt (fun k => decide (¬ (f 1 ≤ Br k) ∧ ¬ (Ar k < from_) ∧ ¬ (to < Ar k + Br k))) m2 (k + 1) n := congrArg (zz_cnt (fun k => decide (¬ (f 1 ≤ Br k) ∧ ¬ (Ar k < from_) ∧ ¬ (to < Ar k + Br k))) m2 (k + 1)) (if_neg (fun h => (fun q : ¬ (f 1 ≤ Br k) ∧ ¬ (Ar k < from_) ∧ ¬ (to < Ar k + Br k) => q.2.2 c3) (of_decide_eq_true h)))
            have g := hides_loop hP hAB (Z := Z) (f := f) (F := F) (from_ := from_) (to := to) (Q := Q) m2 (k + 1) n (by omega) (fun k9 => by have h := H k9; rw [e0] at h; exact h)
            refine px_PW.lc (lv' := [some (.ref 1000), some (.int from_), some (.int to), some (.int (nI n)), some (.int (nI (k + 1)))]) (show ([some (.ref 1000), some (.int from_), some (.int to), some (.int ((nI n) + 0)), some (.int ((nI k) + 1))] : px_L) = _ from by rw [← nI_succ k, Int32.add_zero]) ?_
            exact g
          · have c3 : ¬ (to < ((Ar k) + (Br k))) := of_decide_eq_false c3
            refine px_PW.steps kt_152.2 6 rfl ?_
            have e0 : zz_cnt (fun k => decide (¬ (f 1 ≤ Br k) ∧ ¬ (Ar k < from_) ∧ ¬ (to < Ar k + Br k))) (m2 + 1) k n = zz_cnt (fun k => decide (¬ (f 1 ≤ Br k) ∧ ¬ (Ar k < from_) ∧ ¬ (to < Ar k + Br k))) m2 (k + 1) (n + 1) := congrArg (zz_cnt (fun k => decide (¬ (f 1 ≤ Br k) ∧ ¬ (Ar k < from_) ∧ ¬ (to < Ar k + Br k))) m2 (k + 1)) (if_pos (decide_eq_true (show ¬ (f 1 ≤ Br k) ∧ ¬ (Ar k < from_) ∧ ¬ (to < Ar k + Br k) from ⟨c1, c2, c3⟩)))
            have g := hides_loop hP hAB (Z := Z) (f := f) (F := F) (from_ := from_) (to := to) (Q := Q) m2 (k + 1) (n + 1) (by omega) (fun k9 => by have h := H k9; rw [e0] at h; exact h)
            refine px_PW.lc (lv' := [some (.ref 1000), some (.int from_), some (.int to), some (.int (nI (n + 1))), some (.int (nI (k + 1)))]) (show ([some (.ref 1000), some (.int from_), some (.int to), some (.int ((nI n) + 1)), some (.int ((nI k) + 1))] : px_L) = _ from by rw [← nI_succ k, ← nI_succ n]) ?_
            exact g
theorem mm_hides {Z f A B : Nat → Int32} {F : Nat → Nat → Int32} {P : Nat} {Ar Br : Nat → Int32} (hP : P ≤ 100) (hAB : ∀ j : Nat, j < P → A j = Ar j ∧ B j = Br j) (from_ : Int32) (to : Int32) : px_PM 1 152 [.ref 1000, .int from_, .int to] ([], px_MH (upd Z 5 (nI P)) (va_up (va_up (va_up F 0 f) 8 A) 9 B)) (fun r h' => r = some (.int (nI (zz_cnt (fun k => decide (¬ (f 1 ≤ Br k) ∧ ¬ (Ar k < from_) ∧ ¬ (to < Ar k + Br k))) (P) 0 0))) ∧ h' = ([], px_MH (upd Z 5 (nI P)) (va_up (va_up (va_up F 0 f) 8 A) 9 B))) := by
  refine px_PM.start (nL := 5) (code := pc_152) rfl rfl ?_
  refine px_PW.steps kt_152.2 4 rfl ?_
  refine hides_loop hP hAB (P) 0 0 (by omega) (fun k => ?_)
  refine px_PW.steps kt_152.2 1 rfl ?_
  exact px_PW.ret kt_152.2 rfl rfl ⟨rfl, rfl⟩
theorem nar_loop {Z f A B : Nat → Int32} {F : Nat → Nat → Int32} {P : Nat} {Ar Br : Nat → Int32} (hP : P ≤ 100) (hAB : ∀ j : Nat, j < P → A j = Ar j ∧ B j = Br j) {Q : Option Value → px_H → Prop} : ∀ (m k : Nat) (a : Int32), k + m = P → (∀ k2 : Nat, px_PW 0 pc_146 Q 44 [some (.ref 1000), some (.int (zz_mn Br m k a)), some (.int (nI k2))] [] ([], px_MH (upd Z 5 (nI P)) (va_up (va_up (va_up F 0 f) 8 A) 9 B))) → px_PW 0 pc_146 Q 9 [some (.ref 1000), some (.int a), some (.int (nI k))] [] ([], px_MH (upd Z 5 (nI P)) (va_up (va_up (va_up F 0 f) 8 A) 9 B))
  | m, k, a, hk, H => by
    refine px_PW.steps kt_146.2 4 rfl ?_
    refine px_PW.br (fun c0 => ?_) (fun c0 => ?_)
    · have c0 : (nI P) ≤ (nI k) := of_decide_eq_true c0
      have c0 : P ≤ k := (nI_leI (a := P) (b := k) (by omega) (by omega)).mp c0
      obtain rfl : m = 0 := by omega
      exact H k
    · have c0 : ¬ ((nI P) ≤ (nI k)) := of_decide_eq_false c0
      have c0 : ¬ (P ≤ k) := fun q => c0 ((nI_leI (a := P) (b := k) (by omega) (by omega)).mpr q)
      obtain ⟨m2, rfl⟩ : ∃ m2, m = m2 + 1 := ⟨m - 1, by omega⟩
      refine px_PW.steps kt_146.2 3 rfl ?_
      refine px_PW.aldN kt_146.2 rfl rfl (n := k) (rfl) (by omega) ?_
      rw [show (va_up (va_up (va_up F 0 f) 8 A) 9 B) 9 k = Br k from (hAB k (by omega)).2]
      refine px_PW.steps kt_146.2 2 rfl ?_
      refine px_PW.br (fun c1 => ?_) (fun c1 => ?_)
      · have c1 : a ≤ (Br k) := of_decide_eq_true c1
        refine px_PW.steps kt_146.2 4 rfl ?_
        have e0 : zz_mn Br (m2 + 1) k a = zz_mn Br m2 (k + 1) a := congrArg (zz_mn Br m2 (k + 1)) (if_pos c1)
        have g := nar_loop hP hAB (Z := Z) (f := f) (F := F) (Q := Q) m2 (k + 1) a (by omega) (fun k9 => by have h := H k9; rw [e0] at h; exact h)
        rw [nI_succ k] at g
        exact g
      · have c1 : ¬ (a ≤ (Br k)) := of_decide_eq_false c1
        refine px_PW.steps kt_146.2 3 rfl ?_
        refine px_PW.aldN kt_146.2 rfl rfl (n := k) (rfl) (by omega) ?_
        rw [show (va_up (va_up (va_up F 0 f) 8 A) 9 B) 9 k = Br k from (hAB k (by omega)).2]
        refine px_PW.steps kt_146.2 4 rfl ?_
        have e0 : zz_mn Br (m2 + 1) k a = zz_mn Br m2 (k + 1) (Br k) := congrArg (zz_mn Br m2 (k + 1)) (if_neg c1)
        have g := nar_loop hP hAB (Z := Z) (f := f) (F := F) (Q := Q) m2 (k + 1) (Br k) (by omega) (fun k9 => by have h := H k9; rw [e0] at h; exact h)
        rw [nI_succ k] at g
        exact g
theorem mm_nar {Z f A B : Nat → Int32} {F : Nat → Nat → Int32} {P : Nat} {Ar Br : Nat → Int32} (hP : P ≤ 100) (hAB : ∀ j : Nat, j < P → A j = Ar j ∧ B j = Br j) (hP0 : 1 ≤ P) : px_PM 1 146 [.ref 1000] ([], px_MH (upd Z 5 (nI P)) (va_up (va_up (va_up F 0 f) 8 A) 9 B)) (fun r h' => r = some (.int (zz_mn Br (P - 1) 1 (Br 0))) ∧ h' = ([], px_MH (upd Z 5 (nI P)) (va_up (va_up (va_up F 0 f) 8 A) 9 B))) := by
  refine px_PM.start (nL := 3) (code := pc_146) rfl rfl ?_
  refine px_PW.steps kt_146.2 3 rfl ?_
  refine px_PW.aldN kt_146.2 rfl rfl (n := 0) rfl (by decide) ?_
  rw [show (va_up (va_up (va_up F 0 f) 8 A) 9 B) 9 0 = Br 0 from (hAB 0 (by omega)).2]
  refine px_PW.steps kt_146.2 3 rfl ?_
  refine nar_loop hP hAB (P - 1) 1 (Br 0) (by omega) (fun k2 => ?_)
  refine px_PW.steps kt_146.2 1 rfl ?_
  exact px_PW.ret kt_146.2 rfl rfl ⟨rfl, rfl⟩
theorem mm_ap (a b : Int32) (h : px_H) : px_PM 1 149 [.int a, .int b] h (fun r h' => r = some (.int (s_ap a b)) ∧ h' = h) := by
  refine px_PM.start (nL := 2) (code := pc_149) rfl rfl ?_
  refine px_PW.steps kt_149.2 3 rfl ?_
  refine px_PW.br (fun c0 => ?_) (fun c0 => ?_)
  · have c0 : b ≤ a := of_decide_eq_true c0
    refine px_PW.steps kt_149.2 3 rfl ?_
    refine px_PW.ret kt_149.2 rfl rfl ?_
    exact ⟨congrArg (fun z => some (Value.int z)) (show s_ap a b = (a - b) from if_pos c0).symm, rfl⟩
  · have c0 : ¬ (b ≤ a) := of_decide_eq_false c0
    refine px_PW.steps kt_149.2 4 rfl ?_
    refine px_PW.ret kt_149.2 rfl rfl ?_
    exact ⟨congrArg (fun z => some (Value.int z)) (show s_ap a b = (b - a) from if_neg c0).symm, rfl⟩
theorem gap_loop {Z f A B : Nat → Int32} {F : Nat → Nat → Int32} {P : Nat} {Ar Br : Nat → Int32} (hP : P ≤ 100) (hAB : ∀ j : Nat, j < P → A j = Ar j ∧ B j = Br j) {from_ to : Int32} {Q : Option Value → px_H → Prop} : ∀ (m k : Nat) (a : Int32) (o5 o6 : Option Value), k + m = P → (∀ (k2 : Nat) (o5 o6 : Option Value), px_PW 1 pc_150 Q 89 [some (.ref 1000), some (.int from_), some (.int to), some (.int (zz_gp Ar Br from_ to m k a)), some (.int (nI k2)), o5, o6] [] ([], px_MH (upd Z 5 (nI P)) (va_up (va_up (va_up F 0 f) 8 A) 9 B))) → px_PW 1 pc_150 Q 14 [some (.ref 1000), some (.int from_), some (.int to), some (.int a), some (.int (nI k)), o5, o6] [] ([], px_MH (upd Z 5 (nI P)) (va_up (va_up (va_up F 0 f) 8 A) 9 B))
  | m, k, a, o5, o6, hk, H => by
    refine px_PW.steps kt_150.2 4 rfl ?_
    refine px_PW.br (fun c0 => ?_) (fun c0 => ?_)
    · have c0 : (nI P) ≤ (nI k) := of_decide_eq_true c0
      have c0 : P ≤ k := (nI_leI (a := P) (b := k) (by omega) (by omega)).mp c0
      obtain rfl : m = 0 := by omega
      exact H k _ _
    · have c0 : ¬ ((nI P) ≤ (nI k)) := of_decide_eq_false c0
      have c0 : ¬ (P ≤ k) := fun q => c0 ((nI_leI (a := P) (b := k) (by omega) (by omega)).mpr q)
      obtain ⟨m2, rfl⟩ : ∃ m2, m = m2 + 1 := ⟨m - 1, by omega⟩
      refine px_PW.steps kt_150.2 3 rfl ?_
      refine px_PW.aldN kt_150.2 rfl rfl (n := k) (rfl) (by omega) ?_
      rw [show (va_up (va_up (va_up F 0 f) 8 A) 9 B) 8 k = Ar k from (hAB k (by omega)).1]
      refine px_PW.steps kt_150.2 1 rfl ?_
      refine px_PW.callS kt_150.2 rfl rfl rfl (mm_ap _ _ _) (by decide) (fun v h1 q => ?_)
      obtain ⟨rfl, rfl⟩ := q
      refine px_PW.steps kt_150.2 4 rfl ?_
      refine px_PW.aldN kt_150.2 rfl rfl (n := k) (rfl) (by omega) ?_
      rw [show (va_up (va_up (va_up F 0 f) 8 A) 9 B) 8 k = Ar k from (hAB k (by omega)).1]
      refine px_PW.steps kt_150.2 3 rfl ?_
      refine px_PW.aldN kt_150.2 rfl rfl (n := k) (rfl) (by omega) ?_
      rw [show (va_up (va_up (va_up F 0 f) 8 A) 9 B) 9 k = Br k from (hAB k (by omega)).2]
      refine px_PW.steps kt_150.2 2 rfl ?_
      refine px_PW.callS kt_150.2 rfl rfl rfl (mm_ap _ _ _) (by decide) (fun v h1 q => ?_)
      obtain ⟨rfl, rfl⟩ := q
      refine px_PW.steps kt_150.2 4 rfl ?_
      refine px_PW.br (fun c1 => ?_) (fun c1 => ?_)
      · have c1 : a ≤ (s_ap (Ar k) from_) := of_decide_eq_true c1
        refine px_PW.steps kt_150.2 5 rfl ?_
        refine px_PW.br (fun c2 => ?_) (fun c2 => ?_)
        · have c2 : a ≤ (s_ap ((Ar k) + (Br k)) to) := of_decide_eq_true c2
          refine px_PW.steps kt_150.2 4 rfl ?_
          have ei : (if a ≤ (s_ap (Ar k) from_) then a else (s_ap (Ar k) from_)) = a := if_pos c1
          have e1 : s_gp1 a (s_ap (Ar k) from_) (s_ap (Ar k + Br k) to) = a := by unfold s_gp1; rw [ei]; exact if_pos c2
          have e0 : zz_gp Ar Br from_ to (m2 + 1) k a = zz_gp Ar Br from_ to m2 (k + 1) a := congrArg (zz_gp Ar Br from_ to m2 (k + 1)) e1
          have g := gap_loop hP hAB (Z := Z) (f := f) (F := F) (from_ := from_) (to := to) (Q := Q) m2 (k + 1) a (some (.int (s_ap (Ar k) from_))) (some (.int (s_ap (Ar k + Br k) to))) (by omega) (fun k9 o5 o6 => by have h := H k9 o5 o6; rw [e0] at h; exact h)
          rw [nI_succ k] at g
          exact g
        · have c2 : ¬ (a ≤ (s_ap ((Ar k) + (Br k)) to)) := of_decide_eq_false c2
          refine px_PW.steps kt_150.2 5 rfl ?_
          have ei : (if a ≤ (s_ap (Ar k) from_) then a else (s_ap (Ar k) from_)) = a := if_pos c1
          have e1 : s_gp1 a (s_ap (Ar k) from_) (s_ap (Ar k + Br k) to) = (s_ap ((Ar k) + (Br k)) to) := by unfold s_gp1; rw [ei]; exact if_neg c2
          have e0 : zz_gp Ar Br from_ to (m2 + 1) k a = zz_gp Ar Br from_ to m2 (k + 1) (s_ap ((Ar k) + (Br k)) to) := congrArg (zz_gp Ar Br from_ to m2 (k + 1)) e1
          have g := gap_loop hP hAB (Z := Z) (f := f) (F := F) (from_ := from_) (to := to) (Q := Q) m2 (k + 1) (s_ap ((Ar k) + (Br k)) to) (some (.int (s_ap (Ar k) from_))) (some (.int (s_ap (Ar k + Br k) to))) (by omega) (fun k9 o5 o6 => by have h := H k9 o5 o6; rw [e0] at h; exact h)
          rw [nI_succ k] at g
          exact g
      · have c1 : ¬ (a ≤ (s_ap (Ar k) from_)) := of_decide_eq_false c1
        refine px_PW.steps kt_150.2 6 rfl ?_
        refine px_PW.br (fun c3 => ?_) (fun c3 => ?_)
        · have c3 : (s_ap (Ar k) from_) ≤ (s_ap ((Ar k) + (Br k)) to) := of_decide_eq_true c3
          refine px_PW.steps kt_150.2 4 rfl ?_
          have ei : (if a ≤ (s_ap (Ar k) from_) then a else (s_ap (Ar k) from_)) = (s_ap (Ar k) from_) := if_neg c1
          have e1 : s_gp1 a (s_ap (Ar k) from_) (s_ap (Ar k + Br k) to) = (s_ap (Ar k) from_) := by unfold s_gp1; rw [ei]; exact if_pos c3
          have e0 : zz_gp Ar Br from_ to (m2 + 1) k a = zz_gp Ar Br from_ to m2 (k + 1) (s_ap (Ar k) from_) := congrArg (zz_gp Ar Br from_ to m2 (k + 1)) e1
          have g := gap_loop hP hAB (Z := Z) (f := f) (F := F) (from_ := from_) (to := to) (Q := Q) m2 (k + 1) (s_ap (Ar k) from_) (some (.int (s_ap (Ar k) from_))) (some (.int (s_ap (Ar k + Br k) to))) (by omega) (fun k9 o5 o6 => by have h := H k9 o5 o6; rw [e0] at h; exact h)
          rw [nI_succ k] at g
          exact g
        · have c3 : ¬ ((s_ap (Ar k) from_) ≤ (s_ap ((Ar k) + (Br k)) to)) := of_decide_eq_false c3
          refine px_PW.steps kt_150.2 5 rfl ?_
          have ei : (if a ≤ (s_ap (Ar k) from_) then a else (s_ap (Ar k) from_)) = (s_ap (Ar k) from_) := if_neg c1
          have e1 : s_gp1 a (s_ap (Ar k) from_) (s_ap (Ar k + Br k) to) = (s_ap ((Ar k) + (Br k)) to) := by unfold s_gp1; rw [ei]; exact if_neg c3
          have e0 : zz_gp Ar Br from_ to (m2 + 1) k a = zz_gp Ar Br from_ to m2 (k + 1) (s_ap ((Ar k) + (Br k)) to) := congrArg (zz_gp Ar Br from_ to m2 (k + 1)) e1
          have g := gap_loop hP hAB (Z := Z) (f := f) (F := F) (from_ := from_) (to := to) (Q := Q) m2 (k + 1) (s_ap ((Ar k) + (Br k)) to) (some (.int (s_ap (Ar k) from_))) (some (.int (s_ap (Ar k + Br k) to))) (by omega) (fun k9 o5 o6 => by have h := H k9 o5 o6; rw [e0] at h; exact h)
          rw [nI_succ k] at g
          exact g
theorem mm_gap {Z f A B : Nat → Int32} {F : Nat → Nat → Int32} {P : Nat} {Ar Br : Nat → Int32} (hP : P ≤ 100) (hAB : ∀ j : Nat, j < P → A j = Ar j ∧ B j = Br j) (hP0 : 1 ≤ P) (from_ to : Int32) : px_PM 2 150 [.ref 1000, .int from_, .int to] ([], px_MH (upd Z 5 (nI P)) (va_up (va_up (va_up F 0 f) 8 A) 9 B)) (fun r h' => r = some (.int (zz_gp Ar Br from_ to P 0 (s_ap (Ar 0) from_))) ∧ h' = ([], px_MH (upd Z 5 (nI P)) (va_up (va_up (va_up F 0 f) 8 A) 9 B))) := by
  refine px_PM.start (nL := 7) (code := pc_150) rfl rfl ?_
  refine px_PW.steps kt_150.2 3 rfl ?_
  refine px_PW.aldN kt_150.2 rfl rfl (n := 0) (rfl) (by omega) ?_
  rw [show (va_up (va_up (va_up F 0 f) 8 A) 9 B) 8 0 = Ar 0 from (hAB 0 (by omega)).1]
  refine px_PW.steps kt_150.2 1 rfl ?_
  refine px_PW.callS kt_150.2 rfl rfl rfl (mm_ap _ _ _) (by decide) (fun v h1 q => ?_)
  obtain ⟨rfl, rfl⟩ := q
  refine px_PW.steps kt_150.2 3 rfl ?_
  refine gap_loop hP hAB P 0 _ none none (by omega) (fun k2 o5 o6 => ?_)
  refine px_PW.steps kt_150.2 1 rfl ?_
  exact px_PW.ret kt_150.2 rfl rfl ⟨rfl, rfl⟩
