theorem zz_n67 {α : Type} (F : Nat → α) (a b c d : α) : va_up (va_up (va_up (va_up F 6 a) 7 b) 6 c) 7 d = va_up (va_up F 6 c) 7 d := by
  funext j
  unfold va_up
  by_cases h7 : j = 7
  · subst h7; rfl
  · by_cases h6 : j = 6
    · subst h6; rfl
    · simp only [if_neg h7, if_neg h6]
def r_hv (f Ar Br : Nat → Int32) (P t : Nat) : Int32 := s_mt1 f (s_mhs f Ar Br P t) (nI t) (f (12 + 4 * t + 0))
def r_hrow (f : Nat → Int32) (T J M : Nat) (e w P : Nat → Nat) (r : Nat) (a : Int32) : Int32 := c_fold (r_hv f (r_A (w r) T J) (r_B (e r) (w r) T J) (P r)) (fun x y => x + y) M 0 a
def r_hall (f : Nat → Int32) (T J M : Nat) (e w P : Nat → Nat) : Nat → Nat → Int32 → Int32
  | 0, _, a => a
  | m + 1, r, a => r_hall f T J M e w P m (r + 1) (r_hrow f T J M e w P r a)
theorem m_hr_loop {Z f A B : Nat → Int32} {F : Nat → Nat → Int32} {P : Nat} {Ar Br : Nat → Int32} (hP : P ≤ 100) (hP0 : 1 ≤ P) (hAB : ∀ j : Nat, j < P → A j = Ar j ∧ B j = Br j) {M : Nat} (hM : f 10 = nI M) (hM6 : M ≤ 6) (htx : r_txf1 f) {r : Nat} {Q : Option Value → px_H → Prop} : ∀ (m t : Nat) (a : Int32) (n6 g7 : Nat → Int32), t + m = M → (∀ (n6 g7 : Nat → Int32), px_PW 4 pc_157 Q 46 [some (.ref 1000), some (.int (c_fold (r_hv f Ar Br P) (fun x y => x + y) m t a)), some (.int (nI r)), some (.int (nI M))] [] ([], px_MH (upd Z 5 (nI P)) (va_up (va_up (va_up (va_up (va_up F 6 n6) 7 g7) 0 f) 8 A) 9 B))) → px_PW 4 pc_157 Q 21 [some (.ref 1000), some (.int a), some (.int (nI r)), some (.int (nI t))] [] ([], px_MH (upd Z 5 (nI P)) (va_up (va_up (va_up (va_up (va_up F 6 n6) 7 g7) 0 f) 8 A) 9 B))
  | m, t, a, n6, g7, ht, H => by
    refine px_PW.steps kt_157.2 4 rfl ?_
    refine px_PW.steps kt_157.2 1 rfl ?_
    refine px_PW.steps kt_157.2 1 rfl ?_
    refine px_PW.br (fun c0 => ?_) (fun c0 => ?_)
    · have c0 : (f 10) ≤ (nI t) := of_decide_eq_true c0
      have c0 : M ≤ t := by rw [hM] at c0; exact (nI_leI (a := M) (b := t) (by omega) (by omega)).mp c0
      obtain rfl : m = 0 := by omega
      obtain rfl : t = M := by omega
      exact H n6 g7
    · have c0 : ¬ ((f 10) ≤ (nI t)) := of_decide_eq_false c0
      have c0 : ¬ (M ≤ t) := fun q => c0 (by rw [hM]; exact (nI_leI (a := M) (b := t) (by omega) (by omega)).mpr q)
      obtain ⟨m2, rfl⟩ : ∃ m2, m = m2 + 1 := ⟨m - 1, by omega⟩
      refine px_PW.steps kt_157.2 3 rfl ?_
      refine px_PW.callV kt_157.2 rfl rfl rfl rfl (mm_harmOn (F := (va_up (va_up F 6 n6) 7 g7)) hP hP0 hAB (n := t) rfl (show t < 6 by omega) htx) (by decide) (fun v h1 q => ?_)
      obtain ⟨rfl, n61, g71, rfl⟩ := q
      rw [zz_n67]
      refine px_PW.steps kt_157.2 4 rfl ?_
      have g := m_hr_loop hP hP0 hAB hM hM6 htx (Z := Z) (F := F) (r := r) (Q := Q) m2 (t + 1) (a + r_hv f Ar Br P t) n61 g71 (by omega) H
      rw [nI_succ t] at g
      exact g
theorem m_ha_loop {Z f : Nat → Int32} {F : Nat → Nat → Int32} {T J R : Nat} {e w P : Nat → Nat} (ok : r_ok f T J R e w P) {M : Nat} (hM : f 10 = nI M) (hM6 : M ≤ 6) (htx : r_txf1 f) {Q : Option Value → px_H → Prop} : ∀ (m r : Nat) (a : Int32) (n6 g7 A B : Nat → Int32) (p : Int32) (o3 : Option Value), r + m = R → (∀ (n6 g7 A B : Nat → Int32) (p : Int32) (o3 : Option Value), px_PW 4 pc_157 Q 52 [some (.ref 1000), some (.int (r_hall f T J M e w P m r a)), some (.int (nI R)), o3] [] ([], px_MH (upd Z 5 p) (va_up (va_up (va_up (va_up (va_up F 6 n6) 7 g7) 0 f) 8 A) 9 B))) → px_PW 4 pc_157 Q 4 [some (.ref 1000), some (.int a), some (.int (nI r)), o3] [] ([], px_MH (upd Z 5 p) (va_up (va_up (va_up (va_up (va_up F 6 n6) 7 g7) 0 f) 8 A) 9 B))
  | m, r, a, n6, g7, A, B, p, o3, hr, H => by
    have hR8 := ok.2.2.2.2.2.1
    refine px_PW.steps kt_157.2 4 rfl ?_
    refine px_PW.steps kt_157.2 1 rfl ?_
    refine px_PW.steps kt_157.2 1 rfl ?_
    refine px_PW.br (fun c0 => ?_) (fun c0 => ?_)
    · have c0 : (f 4) ≤ (nI r) := of_decide_eq_true c0
      have c0 : R ≤ r := by rw [ok.2.2.1] at c0; exact (nI_leI (a := R) (b := r) (by omega) (by omega)).mp c0
      obtain rfl : m = 0 := by omega
      obtain rfl : r = R := by omega
      exact H _ _ _ _ _ _
    · have c0 : ¬ ((f 4) ≤ (nI r)) := of_decide_eq_false c0
      have c0 : ¬ (R ≤ r) := fun q => c0 (by rw [ok.2.2.1]; exact (nI_leI (a := R) (b := r) (by omega) (by omega)).mpr q)
      obtain ⟨m2, rfl⟩ : ∃ m2, m = m2 + 1 := ⟨m - 1, by omega⟩
      refine px_PW.steps kt_157.2 2 rfl ?_
      refine px_PW.callV kt_157.2 rfl rfl rfl rfl (mm_layR (F := (va_up (va_up F 6 n6) 7 g7)) (f := f) ok.1 ok.2.1 ok.2.2.2.1 ok.2.2.2.2.1 (ok.2.2.2.2.2.2 r (by omega))) (by decide) (fun v h1 q => ?_)
      obtain ⟨rfl, A9, B9, hAB9, rfl⟩ := q
      refine px_PW.steps kt_157.2 2 rfl ?_
      have hrow := ok.2.2.2.2.2.2 r (by omega)
      refine m_hr_loop (P := P r) hrow.2.2.2.2.1 hrow.2.2.2.2.2.1 hAB9 hM hM6 htx M 0 a n6 g7 (by omega) (fun n62 g72 => ?_)
      refine px_PW.steps kt_157.2 2 rfl ?_
      have g := m_ha_loop ok hM hM6 htx (Z := Z) (F := F) (Q := Q) m2 (r + 1) (r_hrow f T J M e w P r a) n62 g72 A9 B9 (nI (P r)) (some (.int (nI M))) (by omega) H
      rw [nI_succ r] at g
      exact g
theorem mm_ha {Z f A B : Nat → Int32} {F : Nat → Nat → Int32} {p : Int32} {T J R : Nat} {e w P : Nat → Nat} (ok : r_ok f T J R e w P) {M : Nat} (hM : f 10 = nI M) (hM6 : M ≤ 6) (htx : r_txf1 f) {n6 g7 : Nat → Int32} : px_PM 5 157 [.ref 1000] ([], px_MH (upd Z 5 p) (va_up (va_up (va_up (va_up (va_up F 6 n6) 7 g7) 0 f) 8 A) 9 B)) (fun r h' => r = some (.int (r_hall f T J M e w P R 0 0)) ∧ ∃ (n6 g7 A B : Nat → Int32) (p : Int32), h' = ([], px_MH (upd Z 5 p) (va_up (va_up (va_up (va_up (va_up F 6 n6) 7 g7) 0 f) 8 A) 9 B))) := by
  refine px_PM.start (nL := 4) (code := pc_157) rfl rfl ?_
  refine px_PW.steps kt_157.2 4 rfl ?_
  refine m_ha_loop ok hM hM6 htx R 0 0 n6 g7 A B p none (by omega) (fun n6 g7 A B p o3 => ?_)
  refine px_PW.steps kt_157.2 1 rfl ?_
  exact px_PW.ret kt_157.2 rfl rfl ⟨rfl, n6, g7, A, B, p, rfl⟩
theorem r_txf1_upd {f : Nat → Int32} (h : r_txf1 f) (x : Int32) : r_txf1 (upd f 6 x) := by
  have e1 : (fun k => upd f 6 x (162 + 2 * k)) = fun k => f (162 + 2 * k) := funext (fun k => px_upd_ne f x (by omega))
  have e2 : (fun k => upd f 6 x (163 + 2 * k)) = fun k => f (163 + 2 * k) := funext (fun k => px_upd_ne f x (by omega))
  rcases h with h | ⟨n, h1, h2, h3⟩
  · exact Or.inl h
  · refine Or.inr ⟨n, h1, h2, ?_⟩
    show r_wf r_ok1 (fun k => upd f 6 x (162 + 2 * k)) (fun k => upd f 6 x (163 + 2 * k)) n 0 0
    rw [e1, e2]
    exact h3
theorem zz_can67 (Z : Nat → Int32) (F : Nat → Nat → Int32) : px_MH Z F = px_MH (upd Z 5 (Z 5)) (va_up (va_up (va_up (va_up (va_up F 6 (F 6)) 7 (F 7)) 0 (F 0)) 8 (F 8)) 9 (F 9)) := by
  rw [zz_ui, px_up_id F 6, px_up_id F 7, px_up_id F 0, px_up_id F 8, px_up_id F 9]
theorem zz_sm2 {Z : Nat → Int32} {F : Nat → Nat → Int32} {n6 g7 A B : Nat → Int32} {p : Int32} : px_sm Z F (upd Z 5 p) (va_up (va_up (va_up (va_up (va_up F 6 n6) 7 g7) 0 (F 0)) 8 A) 9 B) := ⟨rfl, fun h => h, rfl, rfl, rfl, rfl, rfl, rfl, rfl⟩
def r_hS (f : Nat → Int32) (T J R M : Nat) (e : Nat → Nat) (w P : Nat → Nat → Nat) (s : Nat) : Int32 := r_hall (upd f 6 (nI s)) T J M e (w s) (P s) R 0 0
def s_mcalm (h : Nat → Int32) : Nat → Nat → Nat × Int32 → Nat × Int32
  | 0, _, a => a
  | m + 1, k, a => s_mcalm h m (k + 1) (if a.1 = 0 then (k, h k) else if a.2 ≤ h k then a else (k, h k))
theorem m_calm_loop {Z f : Nat → Int32} {F : Nat → Nat → Int32} {T J R : Nat} {e : Nat → Nat} {w P : Nat → Nat → Nat} (hTi : f 1 = nI T) (hT2 : T ≤ 200) (ok : ∀ s : Nat, 1 ≤ s → s ≤ T → r_ok (upd f 6 (nI s)) T J R e (w s) (P s)) {M : Nat} (hM : f 10 = nI M) (hM6 : M ≤ 6) (htx : r_txf1 f) {what was : Int32} {Q : Option Value → px_H → Prop} : ∀ (m k : Nat) (a : Nat × Int32) (n6 g7 A B : Nat → Int32) (p x : Int32) (o6 : Option Value), k + m = T + 1 → 1 ≤ k → a.1 < 1000 → (∀ (n6 g7 A B : Nat → Int32) (p x : Int32) (k2 : Nat) (o6 : Option Value), px_PW 5 pc_177 Q 81 [some (.ref 1000), some (.int what), some (.int was), some (.int (nI (s_mcalm (r_hS f T J R M e w P) m k a).1)), some (.int (s_mcalm (r_hS f T J R M e w P) m k a).2), some (.int (nI k2)), o6] [] ([], px_MH (upd Z 5 p) (va_up (va_up (va_up (va_up (va_up F 6 n6) 7 g7) 0 (upd f 6 x)) 8 A) 9 B))) → px_PW 5 pc_177 Q 31 [some (.ref 1000), some (.int what), some (.int was), some (.int (nI a.1)), some (.int a.2), some (.int (nI k)), o6] [] ([], px_MH (upd Z 5 p) (va_up (va_up (va_up (va_up (va_up F 6 n6) 7 g7) 0 (upd f 6 x)) 8 A) 9 B))
  | m, k, a, n6, g7, A, B, p, x, o6, hk, hk1, ha, H => by
    refine px_PW.steps kt_177.2 4 rfl ?_
    refine px_PW.steps kt_177.2 1 rfl ?_
    refine px_PW.steps kt_177.2 1 rfl ?_
    refine px_PW.br (fun c0 => ?_) (fun c0 => ?_)
    · have c0 : ((upd f 6 x) 1) < (nI k) := of_decide_eq_true c0
      have c0 : T < k := (nI_ltI (a := T) (b := k) (by omega) (by omega)).mp (by rw [← hTi]; exact c0)
      obtain rfl : m = 0 := by omega
      exact H _ _ _ _ _ _ _ _
    · have c0 : ¬ (((upd f 6 x) 1) < (nI k)) := of_decide_eq_false c0
      have c0 : ¬ (T < k) := fun q => c0 (show f 1 < nI k from by rw [hTi]; exact (nI_ltI (a := T) (b := k) (by omega) (by omega)).mpr q)
      obtain ⟨m2, rfl⟩ : ∃ m2, m = m2 + 1 := ⟨m - 1, by omega⟩
      refine px_PW.steps kt_177.2 4 rfl ?_
      refine mr_0 kt_177.2 rfl (n := 6) rfl (by decide) ?_
      rw [zz_uu]
      refine px_PW.steps kt_177.2 1 rfl ?_
      refine px_PW.callV kt_177.2 rfl rfl rfl rfl (mm_ha (f := upd f 6 (nI k)) (ok k (by omega) (by omega)) (show upd f 6 (nI k) 10 = nI M from hM) hM6 (r_txf1_upd htx _)) (by decide) (fun v h1 q => ?_)
      obtain ⟨rfl, n62, g72, A22, B22, p22, rfl⟩ := q
      refine px_PW.steps kt_177.2 3 rfl ?_
      refine px_PW.br (fun c1 => ?_) (fun c1 => ?_)
      · have c1 : (nI a.1) = 0 := of_decide_eq_true c1
        have c1 : a.1 = 0 := (nI_eq (b := 0) (by omega) (by omega)).mp c1
        refine px_PW.steps kt_177.2 6 rfl ?_
        have e0 : s_mcalm (r_hS f T J R M e w P) (m2 + 1) k a = s_mcalm (r_hS f T J R M e w P) m2 (k + 1) (k, (r_hS f T J R M e w P) k) := congrArg (s_mcalm (r_hS f T J R M e w P) m2 (k + 1)) (if_pos c1)
        have g := m_calm_loop hTi hT2 ok hM hM6 htx (Z := Z) (F := F) (what := what) (was := was) (Q := Q) m2 (k + 1) (k, (r_hS f T J R M e w P) k) n62 g72 A22 B22 p22 (nI k) (some (.int ((r_hS f T J R M e w P) k))) (by omega) (by omega) (by first | exact ha | (show k < 1000; omega)) (fun n6 g7 A B p x k9 o6 => by have h := H n6 g7 A B p x k9 o6; rw [e0] at h; exact h)
        rw [nI_succ k] at g
        exact g
      · have c1 : ¬ ((nI a.1) = 0) := of_decide_eq_false c1
        have c1 : ¬ (a.1 = 0) := fun q => c1 (by rw [q]; rfl)
        refine px_PW.steps kt_177.2 3 rfl ?_
        refine px_PW.br (fun c2 => ?_) (fun c2 => ?_)
        · have c2 : a.2 ≤ ((r_hS f T J R M e w P) k) := of_decide_eq_true c2
          refine px_PW.steps kt_177.2 2 rfl ?_
          have e0 : s_mcalm (r_hS f T J R M e w P) (m2 + 1) k a = s_mcalm (r_hS f T J R M e w P) m2 (k + 1) a := congrArg (s_mcalm (r_hS f T J R M e w P) m2 (k + 1)) ((if_neg c1).trans (if_pos c2))
          have g := m_calm_loop hTi hT2 ok hM hM6 htx (Z := Z) (F := F) (what := what) (was := was) (Q := Q) m2 (k + 1) a n62 g72 A22 B22 p22 (nI k) (some (.int ((r_hS f T J R M e w P) k))) (by omega) (by omega) (by first | exact ha | (show k < 1000; omega)) (fun n6 g7 A B p x k9 o6 => by have h := H n6 g7 A B p x k9 o6; rw [e0] at h; exact h)
          rw [nI_succ k] at g
          exact g
        · have c2 : ¬ (a.2 ≤ ((r_hS f T J R M e w P) k)) := of_decide_eq_false c2
          refine px_PW.steps kt_177.2 6 rfl ?_
          have e0 : s_mcalm (r_hS f T J R M e w P) (m2 + 1) k a = s_mcalm (r_hS f T J R M e w P) m2 (k + 1) (k, (r_hS f T J R M e w P) k) := congrArg (s_mcalm (r_hS f T J R M e w P) m2 (k + 1)) ((if_neg c1).trans (if_neg c2))
          have g := m_calm_loop hTi hT2 ok hM hM6 htx (Z := Z) (F := F) (what := what) (was := was) (Q := Q) m2 (k + 1) (k, (r_hS f T J R M e w P) k) n62 g72 A22 B22 p22 (nI k) (some (.int ((r_hS f T J R M e w P) k))) (by omega) (by omega) (by first | exact ha | (show k < 1000; omega)) (fun n6 g7 A B p x k9 o6 => by have h := H n6 g7 A B p x k9 o6; rw [e0] at h; exact h)
          rw [nI_succ k] at g
          exact g
def s_mcalmv (T J R M : Nat) (e : Nat → Nat) (w P : Nat → Nat → Nat) (F : Nat → Nat → Int32) (what : Int32) : Int32 := if 0 ≤ what ∧ what ≤ 1 then (if what = 0 then nI (s_mcalm (r_hS (F 0) T J R M e w P) T 1 (0, 0)).1 else (s_mcalm (r_hS (F 0) T J R M e w P) T 1 (0, 0)).2) else -1000000000 - 1
theorem kc_mcalm {Z : Nat → Int32} {F : Nat → Nat → Int32} {T J R : Nat} {e : Nat → Nat} {w P : Nat → Nat → Nat} (hTi : (F 0) 1 = nI T) (hT2 : T ≤ 200) (ok : ∀ s : Nat, 1 ≤ s → s ≤ T → r_ok (upd (F 0) 6 (nI s)) T J R e (w s) (P s)) {M : Nat} (hM : F 0 10 = nI M) (hM6 : M ≤ 6) (htx : r_txf1 (F 0)) (what : Int32) : px_PM 6 177 [.ref 1000, .int what] ([], px_MH Z F) (fun r h' => r = some (.int (s_mcalmv T J R M e w P F what)) ∧ ∃ Z' F', px_sm Z F Z' F' ∧ h' = ([], px_MH Z' F')) := by
  refine px_PM.start (nL := 7) (code := pc_177) rfl rfl ?_
  refine px_PW.steps kt_177.2 3 rfl ?_
  refine px_PW.callS kt_177.2 rfl rfl rfl (cm_117 _ _ _ _) (by decide) (fun v h1 q => ?_)
  obtain ⟨rfl, rfl⟩ := q
  refine px_PW.steps kt_177.2 1 rfl ?_
  refine px_PW.br (fun c0 => ?_) (fun c0 => ?_)
  · have c0 : 0 ≤ what ∧ what ≤ 1 := px_b1n (of_decide_eq_false (px_nt c0))
    refine px_PW.steps kt_177.2 3 rfl ?_
    refine px_PW.steps kt_177.2 1 rfl ?_
    refine px_PW.steps kt_177.2 7 rfl ?_
    refine px_PW.hp (h' := ([], px_MH (upd Z 5 (Z 5)) (va_up (va_up (va_up (va_up (va_up F 6 (F 6)) 7 (F 7)) 0 (upd (F 0) 6 (F 0 6))) 8 (F 8)) 9 (F 9)))) (by rw [zz_ui (F 0) 6, ← zz_can67]) ?_
    refine m_calm_loop (f := F 0) hTi hT2 ok hM hM6 htx (what := what) T 1 (0, 0) (F 6) (F 7) (F 8) (F 9) (Z 5) (F 0 6) none (by omega) (by omega) (by decide) (fun n6 g7 A B p x k9 o6 => ?_)
    refine px_PW.steps kt_177.2 4 rfl ?_
    refine mr_0 kt_177.2 rfl (n := 6) rfl (by decide) ?_
    first | rw [zz_uu, show upd (F 0) 6 (F 0 (Int32.toNatClampNeg 6)) = F 0 from zz_ui (F 0) 6] | rw [zz_uu, zz_ui]
    refine px_PW.steps kt_177.2 2 rfl ?_
    refine px_PW.br (fun c1 => ?_) (fun c1 => ?_)
    · have c1 : ¬ (what = 0) := of_decide_eq_false (px_nt c1)
      refine px_PW.steps kt_177.2 1 rfl ?_
      refine px_PW.ret kt_177.2 rfl rfl ?_
      have E : s_mcalmv T J R M e w P F what = (s_mcalm (r_hS (F 0) T J R M e w P) T 1 (0, 0)).2 := (if_pos c0).trans (if_neg c1)
      rw [E]
      exact ⟨rfl, _, _, zz_sm2, rfl⟩
    · have c1 : what = 0 := of_decide_eq_true (px_nf c1)
      refine px_PW.steps kt_177.2 2 rfl ?_
      refine px_PW.ret kt_177.2 rfl rfl ?_
      have E : s_mcalmv T J R M e w P F what = (nI (s_mcalm (r_hS (F 0) T J R M e w P) T 1 (0, 0)).1) := (if_pos c0).trans (if_pos c1)
      rw [E]
      exact ⟨rfl, _, _, zz_sm2, rfl⟩
  · have c0 : ¬ (0 ≤ what ∧ what ≤ 1) := px_b1z (of_decide_eq_true (px_nf c0))
    refine px_PW.steps kt_177.2 2 rfl ?_
    refine px_PW.callV kt_177.2 rfl rfl rfl rfl (mm_error 1 (by decide)) (by decide) (fun v h1 q => ?_)
    obtain ⟨rfl, rfl⟩ := q
    refine px_PW.ret kt_177.2 rfl rfl ?_
    have E : s_mcalmv T J R M e w P F what = (-1000000000 - 1) := if_neg c0
    rw [E]
    exact ⟨rfl, _, _, px_sm.err, rfl⟩
def r_all0 (F : Nat → Nat → Int32) (T J R : Nat) (e w P : Nat → Nat) : Int32 := c_fold (fun r => nI (r_cuts (F 0 1) (r_B (e r) (w r) T J) (P r))) (fun v o => v + o) R 0 0
def r_all1 (F : Nat → Nat → Int32) (T J R : Nat) (e w P : Nat → Nat) : Int32 := c_fold (fun r => r_nar (r_B (e r) (w r) T J) (P r)) (fun v o => if v ≤ o then v else o) R 0 9999
def r_all2 (F : Nat → Nat → Int32) (T J R : Nat) (e w P : Nat → Nat) : Int32 := c_fold (fun r => nI (r_halves (F 0 1) (r_B (e r) (w r) T J) (P r))) (fun v o => v + o) R 0 0
def r_all3 (F : Nat → Nat → Int32) (T J R : Nat) (e w P : Nat → Nat) : Int32 := c_fold (fun r => nI (P r)) (fun v o => v + o) R 0 0
def s_mtiles (F : Nat → Nat → Int32) (T J R : Nat) (e w P : Nat → Nat) : Int32 := ((((r_all3 F T J R e w P) - (r_all2 F T J R e w P)) + (((r_all2 F T J R e w P) + 1) / 2)) + (s_mt0 (F 0) (r_all0 F T J R e w P) (((r_all3 F T J R e w P) - (r_all2 F T J R e w P)) + (((r_all2 F T J R e w P) + 1) / 2)) ((F 0) 1)))
theorem mm_tiles {Z : Nat → Int32} {F : Nat → Nat → Int32} {T J R : Nat} {e w P : Nat → Nat} (ok : r_ok (F 0) T J R e w P) (htx0 : r_txf0 (F 0)) : px_PM 4 171 [.ref 1000] ([], px_MH Z F) (fun r h' => r = some (.int (s_mtiles F T J R e w P)) ∧ ∃ (n6 g7 A B : Nat → Int32) (p : Int32), h' = ([], px_MH (upd Z 5 p) (va_up (va_up (va_up (va_up (va_up F 6 n6) 7 g7) 0 (F 0)) 8 A) 9 B))) := by
  refine px_PM.start (nL := 4) (code := pc_171) rfl rfl ?_
  refine px_PW.steps kt_171.2 2 rfl ?_
  refine px_PW.hp (h' := ([], px_MH (upd Z 5 (Z 5)) (va_up (va_up (va_up F 0 (F 0)) 8 (F 8)) 9 (F 9)))) (by rw [← zz_can]) ?_
  refine px_PW.callV kt_171.2 rfl rfl rfl rfl (mm_all0 (f := F 0) ok) (by decide) (fun v h1 q => ?_)
  obtain ⟨rfl, A30, B30, p30, rfl⟩ := q
  refine px_PW.steps kt_171.2 3 rfl ?_
  refine px_PW.callV kt_171.2 rfl rfl rfl rfl (mm_all2 (f := F 0) ok) (by decide) (fun v h1 q => ?_)
  obtain ⟨rfl, A31, B31, p31, rfl⟩ := q
  refine px_PW.steps kt_171.2 3 rfl ?_
  refine px_PW.callV kt_171.2 rfl rfl rfl rfl (mm_all3 (f := F 0) ok) (by decide) (fun v h1 q => ?_)
  obtain ⟨rfl, A32, B32, p32, rfl⟩ := q
  refine px_PW.steps kt_171.2 16 rfl ?_
  refine px_PW.steps kt_171.2 1 rfl ?_
  refine px_PW.callV kt_171.2 rfl rfl rfl rfl (mm_told0 (F := (va_up (va_up (va_up F 0 (F 0)) 8 A32) 9 B32)) (show r_txf0 (F 0) from htx0) _ _ _) (by decide) (fun v h1 q => ?_)
  obtain ⟨rfl, n6, g7, rfl⟩ := q
  rw [zz_c67]
  refine px_PW.steps kt_171.2 1 rfl ?_
  refine px_PW.ret kt_171.2 rfl rfl ?_
  exact ⟨rfl, n6, g7, A32, B32, p32, rfl⟩
def s_mbuy (T J R M : Nat) (e w P : Nat → Nat) (F : Nat → Nat → Int32) (what : Int32) : Int32 := (if what = 0 then (s_mtiles F T J R e w P) else (if what = 1 then ((((s_mtiles F T J R e w P) + 40) - 1) / 40) else (if what = 2 then (r_all0 F T J R e w P) else (if what = 3 then (r_all1 F T J R e w P) else (if what = 4 then (r_all2 F T J R e w P) else (if what = 5 then (r_hall (F 0) T J M e w P R 0 0) else (-1000000000 - 1)))))))
theorem px_swd_172_1 {x : Int32} (c0 : ¬ (x = 0)) (c1 : ¬ (x = 1)) (c2 : ¬ (x = 2)) (c3 : ¬ (x = 3)) (c4 : ¬ (x = 4)) (c5 : ¬ (x = 5)) : px_sw 0 [40, 45, 58, 64, 70, 76] 81 x.toInt = 81 := by
  have d0 : ¬ (x.toInt = 0) := fun h => c0 (px_i_of h (by decide +kernel))
  have d1 : ¬ (x.toInt = 1) := fun h => c1 (px_i_of h (by decide +kernel))
  have d2 : ¬ (x.toInt = 2) := fun h => c2 (px_i_of h (by decide +kernel))
  have d3 : ¬ (x.toInt = 3) := fun h => c3 (px_i_of h (by decide +kernel))
  have d4 : ¬ (x.toInt = 4) := fun h => c4 (px_i_of h (by decide +kernel))
  have d5 : ¬ (x.toInt = 5) := fun h => c5 (px_i_of h (by decide +kernel))
  exact px_sw_d (fun y h1 h2 => by
    have h1 : (0 : Int) ≤ y := h1
    have h2 : y < 6 := h2
    rcases (show y = 0 ∨ y = 1 ∨ y = 2 ∨ y = 3 ∨ y = 4 ∨ y = 5 by omega) with rfl | rfl | rfl | rfl | rfl | rfl
    · exact Or.inl (fun h => d0 h)
    · exact Or.inl (fun h => d1 h)
    · exact Or.inl (fun h => d2 h)
    · exact Or.inl (fun h => d3 h)
    · exact Or.inl (fun h => d4 h)
    · exact Or.inl (fun h => d5 h))
theorem kc_mbuy {Z : Nat → Int32} {F : Nat → Nat → Int32} {T J R : Nat} {e w P : Nat → Nat} (ok : r_ok (F 0) T J R e w P) {M : Nat} (hM : F 0 10 = nI M) (hM6 : M ≤ 6) (htx : r_txf1 (F 0)) (htx0 : r_txf0 (F 0)) (what : Int32) : px_PM 6 172 [.ref 1000, .int what] ([], px_MH Z F) (fun r h' => r = some (.int (s_mbuy T J R M e w P F what)) ∧ ∃ Z' F', px_sm Z F Z' F' ∧ h' = ([], px_MH Z' F')) := by
  refine px_PM.start (nL := 2) (code := pc_172) rfl rfl ?_
  refine px_PW.steps kt_172.2 2 rfl ?_
  by_cases c0 : what = 0
  · refine px_PW.at (pc' := 40) (show px_sw 0 [40, 45, 58, 64, 70, 76] 81 (what : Int32).toInt = 40 by rw [c0]; rfl) ?_
    refine px_PW.steps kt_172.2 1 rfl ?_
    refine px_PW.callV kt_172.2 rfl rfl rfl rfl (mm_tiles ok htx0) (by decide) (fun v h1 q => ?_)
    obtain ⟨rfl, n40, g40, A40, B40, p40, rfl⟩ := q
    refine px_PW.ret kt_172.2 rfl rfl ?_
    have E : s_mbuy T J R M e w P F what = (s_mtiles F T J R e w P) := if_pos c0
    rw [E]
    exact ⟨rfl, _, _, zz_sm2, rfl⟩
  · skip
    by_cases c1 : what = 1
    · refine px_PW.at (pc' := 45) (show px_sw 0 [40, 45, 58, 64, 70, 76] 81 (what : Int32).toInt = 45 by rw [c1]; rfl) ?_
      refine px_PW.steps kt_172.2 1 rfl ?_
      refine px_PW.callV kt_172.2 rfl rfl rfl rfl (mm_tiles ok htx0) (by decide) (fun v h1 q => ?_)
      obtain ⟨rfl, n40, g40, A40, B40, p40, rfl⟩ := q
      refine px_PW.steps kt_172.2 6 rfl ?_
      refine px_PW.ret kt_172.2 rfl rfl ?_
      have E : s_mbuy T J R M e w P F what = ((((s_mtiles F T J R e w P) + 40) - 1) / 40) := (if_neg c0).trans (if_pos c1)
      rw [E]
      exact ⟨rfl, _, _, zz_sm2, rfl⟩
    · skip
      by_cases c2 : what = 2
      · refine px_PW.at (pc' := 58) (show px_sw 0 [40, 45, 58, 64, 70, 76] 81 (what : Int32).toInt = 58 by rw [c2]; rfl) ?_
        refine px_PW.steps kt_172.2 2 rfl ?_
        refine px_PW.hp (h' := ([], px_MH (upd Z 5 (Z 5)) (va_up (va_up (va_up F 0 (F 0)) 8 (F 8)) 9 (F 9)))) (by rw [← zz_can]) ?_
        refine px_PW.callV kt_172.2 rfl rfl rfl rfl (mm_all0 (f := F 0) ok) (by decide) (fun v h1 q => ?_)
        obtain ⟨rfl, A30, B30, p30, rfl⟩ := q
        refine px_PW.ret kt_172.2 rfl rfl ?_
        have E : s_mbuy T J R M e w P F what = (r_all0 F T J R e w P) := (if_neg c0).trans ((if_neg c1).trans (if_pos c2))
        rw [E]
        exact ⟨rfl, _, _, zz_sm, rfl⟩
      · skip
        by_cases c3 : what = 3
        · refine px_PW.at (pc' := 64) (show px_sw 0 [40, 45, 58, 64, 70, 76] 81 (what : Int32).toInt = 64 by rw [c3]; rfl) ?_
          refine px_PW.steps kt_172.2 2 rfl ?_
          refine px_PW.hp (h' := ([], px_MH (upd Z 5 (Z 5)) (va_up (va_up (va_up F 0 (F 0)) 8 (F 8)) 9 (F 9)))) (by rw [← zz_can]) ?_
          refine px_PW.callV kt_172.2 rfl rfl rfl rfl (mm_all1 (f := F 0) ok) (by decide) (fun v h1 q => ?_)
          obtain ⟨rfl, A30, B30, p30, rfl⟩ := q
          refine px_PW.ret kt_172.2 rfl rfl ?_
          have E : s_mbuy T J R M e w P F what = (r_all1 F T J R e w P) := (if_neg c0).trans ((if_neg c1).trans ((if_neg c2).trans (if_pos c3)))
          rw [E]
          exact ⟨rfl, _, _, zz_sm, rfl⟩
        · skip
          by_cases c4 : what = 4
          · refine px_PW.at (pc' := 70) (show px_sw 0 [40, 45, 58, 64, 70, 76] 81 (what : Int32).toInt = 70 by rw [c4]; rfl) ?_
            refine px_PW.steps kt_172.2 2 rfl ?_
            refine px_PW.hp (h' := ([], px_MH (upd Z 5 (Z 5)) (va_up (va_up (va_up F 0 (F 0)) 8 (F 8)) 9 (F 9)))) (by rw [← zz_can]) ?_
            refine px_PW.callV kt_172.2 rfl rfl rfl rfl (mm_all2 (f := F 0) ok) (by decide) (fun v h1 q => ?_)
            obtain ⟨rfl, A30, B30, p30, rfl⟩ := q
            refine px_PW.ret kt_172.2 rfl rfl ?_
            have E : s_mbuy T J R M e w P F what = (r_all2 F T J R e w P) := (if_neg c0).trans ((if_neg c1).trans ((if_neg c2).trans ((if_neg c3).trans (if_pos c4))))
            rw [E]
            exact ⟨rfl, _, _, zz_sm, rfl⟩
          · skip
            by_cases c5 : what = 5
            · refine px_PW.at (pc' := 76) (show px_sw 0 [40, 45, 58, 64, 70, 76] 81 (what : Int32).toInt = 76 by rw [c5]; rfl) ?_
              refine px_PW.steps kt_172.2 1 rfl ?_
              refine px_PW.hp (h' := ([], px_MH (upd Z 5 (Z 5)) (va_up (va_up (va_up (va_up (va_up F 6 (F 6)) 7 (F 7)) 0 (F 0)) 8 (F 8)) 9 (F 9)))) (by rw [← zz_can67]) ?_
              refine px_PW.callV kt_172.2 rfl rfl rfl rfl (mm_ha (F := F) (f := F 0) ok hM hM6 htx) (by decide) (fun v h1 q => ?_)
              obtain ⟨rfl, n41, g41, A41, B41, p41, rfl⟩ := q
              refine px_PW.ret kt_172.2 rfl rfl ?_
              have E : s_mbuy T J R M e w P F what = (r_hall (F 0) T J M e w P R 0 0) := (if_neg c0).trans ((if_neg c1).trans ((if_neg c2).trans ((if_neg c3).trans ((if_neg c4).trans (if_pos c5)))))
              rw [E]
              exact ⟨rfl, _, _, zz_sm2, rfl⟩
            · skip
              refine px_PW.at (px_swd_172_1 c0 c1 c2 c3 c4 c5) ?_
              refine px_PW.steps kt_172.2 2 rfl ?_
              refine px_PW.callV kt_172.2 rfl rfl rfl rfl (mm_error 1 (by decide)) (by decide) (fun v h1 q => ?_)
              obtain ⟨rfl, rfl⟩ := q
              refine px_PW.ret kt_172.2 rfl rfl ?_
              have E : s_mbuy T J R M e w P F what = (-1000000000 - 1) := (if_neg c0).trans ((if_neg c1).trans ((if_neg c2).trans ((if_neg c3).trans ((if_neg c4).trans (if_neg c5)))))
              rw [E]
              exact ⟨rfl, _, _, px_sm.err, rfl⟩
def s_mseen (T J : Nat) (e w P : Nat → Nat) (F : Nat → Nat → Int32) (thing row what : Int32) : Int32 := (if 0 ≤ thing ∧ thing ≤ F 0 10 - 1 then (if 0 ≤ row ∧ row ≤ F 0 4 - 1 then (if 0 ≤ what ∧ what ≤ 4 then (if what = 0 then (r_jo (r_A (w row.toNatClampNeg) T J) (r_B (e row.toNatClampNeg) (w row.toNatClampNeg) T J) (P row.toNatClampNeg) (F 0 (12 + 4 * thing.toNatClampNeg + 2)) ((F 0 (12 + 4 * thing.toNatClampNeg + 2)) + (F 0 (12 + 4 * thing.toNatClampNeg + 3)))) else (if what = 1 then (r_ga (r_A (w row.toNatClampNeg) T J) (r_B (e row.toNatClampNeg) (w row.toNatClampNeg) T J) (P row.toNatClampNeg) (F 0 (12 + 4 * thing.toNatClampNeg + 2)) ((F 0 (12 + 4 * thing.toNatClampNeg + 2)) + (F 0 (12 + 4 * thing.toNatClampNeg + 3)))) else (if what = 2 then (r_to (r_A (w row.toNatClampNeg) T J) (r_B (e row.toNatClampNeg) (w row.toNatClampNeg) T J) (P row.toNatClampNeg) (F 0 (12 + 4 * thing.toNatClampNeg + 2)) ((F 0 (12 + 4 * thing.toNatClampNeg + 2)) + (F 0 (12 + 4 * thing.toNatClampNeg + 3)))) else (if what = 3 then (r_hi (F 0 1) (r_A (w row.toNatClampNeg) T J) (r_B (e row.toNatClampNeg) (w row.toNatClampNeg) T J) (P row.toNatClampNeg) (F 0 (12 + 4 * thing.toNatClampNeg + 2)) ((F 0 (12 + 4 * thing.toNatClampNeg + 2)) + (F 0 (12 + 4 * thing.toNatClampNeg + 3)))) else (s_mt1 (F 0) (s_mhs (F 0) (r_A (w row.toNatClampNeg) T J) (r_B (e row.toNatClampNeg) (w row.toNatClampNeg) T J) (P row.toNatClampNeg) thing.toNatClampNeg) thing (F 0 (12 + 4 * thing.toNatClampNeg + 0))))))) else (-1000000000 - 1)) else (-1000000000 - 1)) else (-1000000000 - 1))
theorem px_swd_170_56 {x : Int32} (c0 : ¬ (x = 0)) (c1 : ¬ (x = 1)) (c2 : ¬ (x = 2)) (c3 : ¬ (x = 3)) : px_sw 0 [88, 97, 106, 115] 124 x.toInt = 124 := by
  have d0 : ¬ (x.toInt = 0) := fun h => c0 (px_i_of h (by decide +kernel))
  have d1 : ¬ (x.toInt = 1) := fun h => c1 (px_i_of h (by decide +kernel))
  have d2 : ¬ (x.toInt = 2) := fun h => c2 (px_i_of h (by decide +kernel))
  have d3 : ¬ (x.toInt = 3) := fun h => c3 (px_i_of h (by decide +kernel))
  exact px_sw_d (fun y h1 h2 => by
    have h1 : (0 : Int) ≤ y := h1
    have h2 : y < 4 := h2
    rcases (show y = 0 ∨ y = 1 ∨ y = 2 ∨ y = 3 by omega) with rfl | rfl | rfl | rfl
    · exact Or.inl (fun h => d0 h)
    · exact Or.inl (fun h => d1 h)
    · exact Or.inl (fun h => d2 h)
    · exact Or.inl (fun h => d3 h))
theorem kc_mseen {Z : Nat → Int32} {F : Nat → Nat → Int32} {T J R : Nat} {e w P : Nat → Nat} (ok : r_ok (F 0) T J R e w P) {M : Nat} (hM : F 0 10 = nI M) (hM6 : M ≤ 6) (htx : r_txf1 (F 0)) (thing row what : Int32) : px_PM 5 170 [.ref 1000, .int thing, .int row, .int what] ([], px_MH Z F) (fun r h' => r = some (.int (s_mseen T J e w P F thing row what)) ∧ ∃ Z' F', px_sm Z F Z' F' ∧ h' = ([], px_MH Z' F')) := by
  refine px_PM.start (nL := 6) (code := pc_170) rfl rfl ?_
  refine px_PW.steps kt_170.2 2 rfl ?_
  refine px_PW.callV kt_170.2 rfl rfl rfl rfl (mm_isThing _) (by decide) (fun v h1 q => ?_)
  obtain ⟨rfl, rfl⟩ := q
  refine px_PW.steps kt_170.2 1 rfl ?_
  refine px_PW.br (fun c0 => ?_) (fun c0 => ?_)
  · have c0 : ¬ (0 ≤ thing ∧ thing ≤ F 0 10 - 1) := px_b1z (of_decide_eq_true c0)
    refine px_PW.steps kt_170.2 2 rfl ?_
    refine px_PW.callV kt_170.2 rfl rfl rfl rfl (mm_error 1 (by decide)) (by decide) (fun v h1 q => ?_)
    obtain ⟨rfl, rfl⟩ := q
    refine px_PW.ret kt_170.2 rfl rfl ?_
    have E : s_mseen T J e w P F thing row what = (-1000000000 - 1) := if_neg c0
    rw [E]
    exact ⟨rfl, _, _, px_sm.err, rfl⟩
  · have c0 : 0 ≤ thing ∧ thing ≤ F 0 10 - 1 := px_b1n (of_decide_eq_false c0)
    refine px_PW.steps kt_170.2 2 rfl ?_
    refine px_PW.callV kt_170.2 rfl rfl rfl rfl (mm_isRow _) (by decide) (fun v h1 q => ?_)
    obtain ⟨rfl, rfl⟩ := q
    refine px_PW.steps kt_170.2 1 rfl ?_
    refine px_PW.br (fun c1 => ?_) (fun c1 => ?_)
    · have c1 : ¬ (0 ≤ row ∧ row ≤ F 0 4 - 1) := px_b1z (of_decide_eq_true c1)
      refine px_PW.steps kt_170.2 2 rfl ?_
      refine px_PW.callV kt_170.2 rfl rfl rfl rfl (mm_error 1 (by decide)) (by decide) (fun v h1 q => ?_)
      obtain ⟨rfl, rfl⟩ := q
      refine px_PW.ret kt_170.2 rfl rfl ?_
      have E : s_mseen T J e w P F thing row what = (-1000000000 - 1) := (if_pos c0).trans (if_neg c1)
      rw [E]
      exact ⟨rfl, _, _, px_sm.err, rfl⟩
    · have c1 : 0 ≤ row ∧ row ≤ F 0 4 - 1 := px_b1n (of_decide_eq_false c1)
      refine px_PW.steps kt_170.2 3 rfl ?_
      refine px_PW.callS kt_170.2 rfl rfl rfl (cm_117 _ _ _ _) (by decide) (fun v h1 q => ?_)
      obtain ⟨rfl, rfl⟩ := q
      refine px_PW.steps kt_170.2 1 rfl ?_
      refine px_PW.br (fun c2 => ?_) (fun c2 => ?_)
      · have c2 : 0 ≤ what ∧ what ≤ 4 := px_b1n (of_decide_eq_false (px_nt c2))
        refine px_PW.steps kt_170.2 2 rfl ?_
        refine px_PW.hp (h' := ([], px_MH (upd Z 5 (Z 5)) (va_up (va_up (va_up F 0 (F 0)) 8 (F 8)) 9 (F 9)))) (by rw [← zz_can]) ?_
        refine px_PW.callV kt_170.2 rfl rfl rfl rfl (mm_layE (f := F 0) (px_rowN ok.2.2.1 ok.2.2.2.2.2.1 c1).1 ok.1 ok.2.1 ok.2.2.2.1 ok.2.2.2.2.1 (ok.2.2.2.2.2.2 _ (px_rowN ok.2.2.1 ok.2.2.2.2.2.1 c1).2)) (by decide) (fun v h1 q => ?_)
        obtain ⟨rfl, A9, B9, hAB, rfl⟩ := q
        have hrow := ok.2.2.2.2.2.2 _ (px_rowN ok.2.2.1 ok.2.2.2.2.2.1 c1).2
        have hP := hrow.2.2.2.2.1
        have hP0 := hrow.2.2.2.2.2.1
        refine px_PW.steps kt_170.2 3 rfl ?_
        refine px_PW.callV kt_170.2 rfl rfl rfl rfl (mm_its (n := thing.toNatClampNeg) (k := 2) (px_thN hM hM6 c0).1 rfl (px_thN hM hM6 c0).2.2 (by decide)) (by decide) (fun v h1 q => ?_)
        obtain ⟨rfl, rfl⟩ := q
        refine px_PW.steps kt_170.2 5 rfl ?_
        refine px_PW.callV kt_170.2 rfl rfl rfl rfl (mm_its (n := thing.toNatClampNeg) (k := 3) (px_thN hM hM6 c0).1 rfl (px_thN hM hM6 c0).2.2 (by decide)) (by decide) (fun v h1 q => ?_)
        obtain ⟨rfl, rfl⟩ := q
        refine px_PW.steps kt_170.2 4 rfl ?_
        by_cases c3 : what = 0
        · refine px_PW.at (pc' := 88) (show px_sw 0 [88, 97, 106, 115] 124 (what : Int32).toInt = 88 by rw [c3]; rfl) ?_
          refine px_PW.steps kt_170.2 3 rfl ?_
          refine px_PW.callV kt_170.2 rfl rfl rfl rfl (mm_joints (f := F 0) hP hAB _ _) (by decide) (fun v h1 q => ?_)
          obtain ⟨rfl, rfl⟩ := q
          refine px_PW.ret kt_170.2 rfl rfl ?_
          have E : s_mseen T J e w P F thing row what = (r_jo (r_A (w row.toNatClampNeg) T J) (r_B (e row.toNatClampNeg) (w row.toNatClampNeg) T J) (P row.toNatClampNeg) (F 0 (12 + 4 * thing.toNatClampNeg + 2)) ((F 0 (12 + 4 * thing.toNatClampNeg + 2)) + (F 0 (12 + 4 * thing.toNatClampNeg + 3)))) := (if_pos c0).trans ((if_pos c1).trans ((if_pos c2).trans (if_pos c3)))
          rw [E]
          exact ⟨rfl, _, _, zz_sm, rfl⟩
        · skip
          by_cases c4 : what = 1
          · refine px_PW.at (pc' := 97) (show px_sw 0 [88, 97, 106, 115] 124 (what : Int32).toInt = 97 by rw [c4]; rfl) ?_
            refine px_PW.steps kt_170.2 3 rfl ?_
            refine px_PW.callV kt_170.2 rfl rfl rfl rfl (mm_gap (f := F 0) hP hAB hP0 _ _) (by decide) (fun v h1 q => ?_)
            obtain ⟨rfl, rfl⟩ := q
            refine px_PW.ret kt_170.2 rfl rfl ?_
            have E : s_mseen T J e w P F thing row what = (r_ga (r_A (w row.toNatClampNeg) T J) (r_B (e row.toNatClampNeg) (w row.toNatClampNeg) T J) (P row.toNatClampNeg) (F 0 (12 + 4 * thing.toNatClampNeg + 2)) ((F 0 (12 + 4 * thing.toNatClampNeg + 2)) + (F 0 (12 + 4 * thing.toNatClampNeg + 3)))) := (if_pos c0).trans ((if_pos c1).trans ((if_pos c2).trans ((if_neg c3).trans (if_pos c4))))
            rw [E]
            exact ⟨rfl, _, _, zz_sm, rfl⟩
          · skip
            by_cases c5 : what = 2
            · refine px_PW.at (pc' := 106) (show px_sw 0 [88, 97, 106, 115] 124 (what : Int32).toInt = 106 by rw [c5]; rfl) ?_
              refine px_PW.steps kt_170.2 3 rfl ?_
              refine px_PW.callV kt_170.2 rfl rfl rfl rfl (mm_touches (f := F 0) hP hAB _ _) (by decide) (fun v h1 q => ?_)
              obtain ⟨rfl, rfl⟩ := q
              refine px_PW.ret kt_170.2 rfl rfl ?_
              have E : s_mseen T J e w P F thing row what = (r_to (r_A (w row.toNatClampNeg) T J) (r_B (e row.toNatClampNeg) (w row.toNatClampNeg) T J) (P row.toNatClampNeg) (F 0 (12 + 4 * thing.toNatClampNeg + 2)) ((F 0 (12 + 4 * thing.toNatClampNeg + 2)) + (F 0 (12 + 4 * thing.toNatClampNeg + 3)))) := (if_pos c0).trans ((if_pos c1).trans ((if_pos c2).trans ((if_neg c3).trans ((if_neg c4).trans (if_pos c5)))))
              rw [E]
              exact ⟨rfl, _, _, zz_sm, rfl⟩
            · skip
              by_cases c6 : what = 3
              · refine px_PW.at (pc' := 115) (show px_sw 0 [88, 97, 106, 115] 124 (what : Int32).toInt = 115 by rw [c6]; rfl) ?_
                refine px_PW.steps kt_170.2 3 rfl ?_
                refine px_PW.callV kt_170.2 rfl rfl rfl rfl (mm_hides (f := F 0) hP hAB _ _) (by decide) (fun v h1 q => ?_)
                obtain ⟨rfl, rfl⟩ := q
                refine px_PW.ret kt_170.2 rfl rfl ?_
                have E : s_mseen T J e w P F thing row what = (r_hi (F 0 1) (r_A (w row.toNatClampNeg) T J) (r_B (e row.toNatClampNeg) (w row.toNatClampNeg) T J) (P row.toNatClampNeg) (F 0 (12 + 4 * thing.toNatClampNeg + 2)) ((F 0 (12 + 4 * thing.toNatClampNeg + 2)) + (F 0 (12 + 4 * thing.toNatClampNeg + 3)))) := (if_pos c0).trans ((if_pos c1).trans ((if_pos c2).trans ((if_neg c3).trans ((if_neg c4).trans ((if_neg c5).trans (if_pos c6))))))
                rw [E]
                exact ⟨rfl, _, _, zz_sm, rfl⟩
              · skip
                refine px_PW.at (px_swd_170_56 c3 c4 c5 c6) ?_
                refine px_PW.steps kt_170.2 2 rfl ?_
                refine px_PW.callV kt_170.2 rfl rfl rfl rfl (mm_harmOn (f := F 0) hP hP0 hAB (n := thing.toNatClampNeg) (px_thN hM hM6 c0).1 (px_thN hM hM6 c0).2.2 htx) (by decide) (fun v h1 q => ?_)
                obtain ⟨rfl, n61, g71, rfl⟩ := q
                refine px_PW.ret kt_170.2 rfl rfl ?_
                have E : s_mseen T J e w P F thing row what = (s_mt1 (F 0) (s_mhs (F 0) (r_A (w row.toNatClampNeg) T J) (r_B (e row.toNatClampNeg) (w row.toNatClampNeg) T J) (P row.toNatClampNeg) thing.toNatClampNeg) thing (F 0 (12 + 4 * thing.toNatClampNeg + 0))) := (if_pos c0).trans ((if_pos c1).trans ((if_pos c2).trans ((if_neg c3).trans ((if_neg c4).trans ((if_neg c5).trans (if_neg c6))))))
                rw [E]
                exact ⟨rfl, _, _, zz_sm2, rfl⟩
      · have c2 : ¬ (0 ≤ what ∧ what ≤ 4) := px_b1z (of_decide_eq_true (px_nf c2))
        refine px_PW.steps kt_170.2 2 rfl ?_
        refine px_PW.callV kt_170.2 rfl rfl rfl rfl (mm_error 1 (by decide)) (by decide) (fun v h1 q => ?_)
        obtain ⟨rfl, rfl⟩ := q
        refine px_PW.ret kt_170.2 rfl rfl ?_
        have E : s_mseen T J e w P F thing row what = (-1000000000 - 1) := (if_pos c0).trans ((if_pos c1).trans (if_neg c2))
        rw [E]
        exact ⟨rfl, _, _, px_sm.err, rfl⟩
