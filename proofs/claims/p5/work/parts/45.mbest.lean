def s_mro (F : Nat → Nat → Int32) (k : Nat) (Br : Nat → Int32) (j : Nat) : Bool := decide (F 13 (24 * k + j) = Br j)
theorem m_ro_loop {Z f A B : Nat → Int32} {F : Nat → Nat → Int32} {k S P : Nat} {Ar Br : Nat → Int32} (hk : k < 4) (hS : F 12 k = nI S) (hS24 : S ≤ 24) (hP : P ≤ 100) (hAB : ∀ j : Nat, j < P → A j = Ar j ∧ B j = Br j) {Bn : Nat} (hB : Bn = min S P) {Q : Option Value → px_H → Prop} : ∀ (m j : Nat), j + m = Bn → px_PW 2 pc_182 Q 51 [some (.ref 1000), some (.int (nI k)), some (.int (nI (zz_run (s_mro F k Br) m j)))] [] ([], px_MH (upd Z 5 (nI P)) (va_up (va_up (va_up F 0 f) 8 A) 9 B)) → px_PW 2 pc_182 Q 7 [some (.ref 1000), some (.int (nI k)), some (.int (nI j))] [] ([], px_MH (upd Z 5 (nI P)) (va_up (va_up (va_up F 0 f) 8 A) 9 B))
  | m, j, hj, H => by
    refine px_PW.steps kt_182.2 4 rfl ?_
    refine px_PW.aldN kt_182.2 rfl rfl (n := k) rfl hk ?_
    rw [show (va_up (va_up (va_up F 0 f) 8 A) 9 B) 12 k = nI S from hS]
    refine px_PW.steps kt_182.2 1 rfl ?_
    refine px_PW.br (fun c0 => ?_) (fun c0 => ?_)
    · have c0 : (nI S) ≤ (nI j) := of_decide_eq_true c0
      have c0 : S ≤ j := (nI_leI (a := S) (b := j) (by omega) (by omega)).mp c0
      obtain rfl : m = 0 := by omega
      exact H
    · have c0 : ¬ ((nI S) ≤ (nI j)) := of_decide_eq_false c0
      have c0 : ¬ (S ≤ j) := fun q => c0 ((nI_leI (a := S) (b := j) (by omega) (by omega)).mpr q)
      refine px_PW.steps kt_182.2 4 rfl ?_
      refine px_PW.br (fun c1 => ?_) (fun c1 => ?_)
      · have c1 : (nI P) ≤ (nI j) := of_decide_eq_true c1
        have c1 : P ≤ j := (nI_leI (a := P) (b := j) (by omega) (by omega)).mp c1
        obtain rfl : m = 0 := by omega
        exact H
      · have c1 : ¬ ((nI P) ≤ (nI j)) := of_decide_eq_false c1
        have c1 : ¬ (P ≤ j) := fun q => c1 ((nI_leI (a := P) (b := j) (by omega) (by omega)).mpr q)
        obtain ⟨m2, rfl⟩ : ∃ m2, m = m2 + 1 := ⟨m - 1, by omega⟩
        refine px_PW.steps kt_182.2 7 rfl ?_
        refine px_PW.aldN kt_182.2 rfl rfl (n := 24 * k + j) (px_ixS rfl) (by omega) ?_
        refine px_PW.steps kt_182.2 3 rfl ?_
        refine px_PW.aldN kt_182.2 rfl rfl (n := j) rfl (by omega) ?_
        rw [show (va_up (va_up (va_up F 0 f) 8 A) 9 B) 9 j = Br j from (hAB j (by omega)).2]
        refine px_PW.steps kt_182.2 1 rfl ?_
        refine px_PW.br (fun c2 => ?_) (fun c2 => ?_)
        · have c2 : ¬ ((F 13 (24 * k + j)) = (Br j)) := of_decide_eq_false (px_nt c2)
          rw [zz_run_n (show ¬ (s_mro F k Br j = true) from fun q => c2 (of_decide_eq_true q))] at H
          exact H
        · have c2 : (F 13 (24 * k + j)) = (Br j) := of_decide_eq_true (px_nf c2)
          refine px_PW.steps kt_182.2 2 rfl ?_
          rw [zz_run_y (show s_mro F k Br j = true from decide_eq_true c2)] at H
          have g := m_ro_loop hk hS hS24 hP hAB hB (Z := Z) (f := f) (Q := Q) m2 (j + 1) (by omega) H
          rw [nI_succ j] at g
          exact g
theorem mm_ro {Z f A B : Nat → Int32} {F : Nat → Nat → Int32} {p : Int32} {k S T J e w P : Nat} (hk : k < 4) (hS : F 12 k = nI S) (hS24 : S ≤ 24) (hT : f 1 = nI T) (hJ : f 2 = nI J) (hT2 : T ≤ 200) (hJ9 : J ≤ 9) (h : r_row f T J 0 e w P) : px_PM 3 182 [.ref 1000, .int (nI k)] ([], px_MH (upd Z 5 p) (va_up (va_up (va_up F 0 f) 8 A) 9 B)) (fun r h' => r = some (.int (nI (zz_run (s_mro F k (r_B e w T J)) (min S P) 0))) ∧ ∃ (A' B' : Nat → Int32), h' = ([], px_MH (upd Z 5 (nI P)) (va_up (va_up (va_up F 0 f) 8 A') 9 B'))) := by
  refine px_PM.start (nL := 3) (code := pc_182) rfl rfl ?_
  refine px_PW.steps kt_182.2 2 rfl ?_
  refine px_PW.callV kt_182.2 rfl rfl rfl rfl (mm_layR (f := f) hT hJ hT2 hJ9 h) (by decide) (fun v h1 q => ?_)
  obtain ⟨rfl, A9, B9, hAB9, rfl⟩ := q
  refine px_PW.steps kt_182.2 2 rfl ?_
  refine m_ro_loop (P := P) hk hS hS24 h.2.2.2.2.1 hAB9 rfl (min S P) 0 (by omega) ?_
  refine px_PW.steps kt_182.2 1 rfl ?_
  exact px_PW.ret kt_182.2 rfl rfl ⟨rfl, A9, B9, rfl⟩
def s_mjudge (T J : Nat) (e w P : Nat → Nat) (S : Nat) (F : Nat → Nat → Int32) (k : Nat) : Int32 := if s_lacks F k = 0 then (nI (zz_run (s_mro F k (r_B (e 0) (w 0) T J)) (min S (P 0)) 0)) else -1000000000 - 2
theorem kc_mjudge {Z : Nat → Int32} {F : Nat → Nat → Int32} {k S T J R : Nat} {e w P : Nat → Nat} (hk : k < 4) (hS : F 12 k = nI S) (hS24 : S ≤ 24) (ok : r_ok (F 0) T J R e w P) (hR1 : 1 ≤ R) : px_PM 4 200 [.ref 1000, .int (nI k)] ([], px_MH Z F) (fun r h' => r = some (.int (s_mjudge T J e w P S F k)) ∧ ∃ Z' F', px_sm Z F Z' F' ∧ h' = ([], px_MH Z' F')) := by
  refine px_PM.start (nL := 3) (code := pc_200) rfl rfl ?_
  refine px_PW.steps kt_200.2 2 rfl ?_
  refine px_PW.callV kt_200.2 rfl rfl rfl rfl (mm_lacks hk) (by decide) (fun v h1 q => ?_)
  obtain ⟨rfl, rfl⟩ := q
  refine px_PW.steps kt_200.2 3 rfl ?_
  refine px_PW.br (fun c0 => ?_) (fun c0 => ?_)
  · have c0 : (s_lacks F k) = 0 := of_decide_eq_true c0
    refine px_PW.steps kt_200.2 2 rfl ?_
    refine px_PW.hp (h' := ([], px_MH (upd Z 5 (Z 5)) (va_up (va_up (va_up F 0 (F 0)) 8 (F 8)) 9 (F 9)))) (by rw [← zz_can]) ?_
    refine px_PW.callV kt_200.2 rfl rfl rfl rfl (mm_ro (F := F) (f := F 0) hk hS hS24 ok.1 ok.2.1 ok.2.2.2.1 ok.2.2.2.2.1 (ok.2.2.2.2.2.2 0 (by omega))) (by decide) (fun v h1 q => ?_)
    obtain ⟨rfl, A9, B9, rfl⟩ := q
    refine px_PW.ret kt_200.2 rfl rfl ?_
    have E : s_mjudge T J e w P S F k = (nI (zz_run (s_mro F k (r_B (e 0) (w 0) T J)) (min S (P 0)) 0)) := if_pos c0
    rw [E]
    exact ⟨rfl, _, _, zz_sm, rfl⟩
  · have c0 : ¬ ((s_lacks F k) = 0) := of_decide_eq_false c0
    refine px_PW.steps kt_200.2 2 rfl ?_
    refine px_PW.callV kt_200.2 rfl rfl rfl rfl (mm_errorL hk c0) (by decide) (fun v h1 q => ?_)
    obtain ⟨rfl, rfl⟩ := q
    refine px_PW.steps kt_200.2 1 rfl ?_
    refine px_PW.ret kt_200.2 rfl rfl ?_
    have E : s_mjudge T J e w P S F k = (-1000000000 - 2) := if_neg c0
    rw [E]
    exact ⟨rfl, _, _, px_sm.err, rfl⟩
def s_mjudgeB (Z : Nat → Int32) (F : Nat → Nat → Int32) (sheet : Int32) : Int32 := (-1000000000 - 1)
theorem kc_mjudgeB {Z : Nat → Int32} {F : Nat → Nat → Int32}  (sheet : Int32) (hb : sheet < 0 ∨ 4 ≤ sheet) : px_PM 4 200 [.ref 1000, .int sheet] ([], px_MH Z F) (fun r h' => r = some (.int (s_mjudgeB Z F sheet)) ∧ ∃ Z' F', px_sm Z F Z' F' ∧ h' = ([], px_MH Z' F')) := by
  refine px_PM.start (nL := 3) (code := pc_200) rfl rfl ?_
  refine px_PW.steps kt_200.2 2 rfl ?_
  refine px_PW.callV kt_200.2 rfl rfl rfl rfl (mm_lacksB hb) (by decide) (fun v h1 q => ?_)
  obtain ⟨rfl, rfl⟩ := q
  refine px_PW.steps kt_200.2 3 rfl ?_
  refine px_PW.br (fun c0 => ?_) (fun c0 => ?_)
  · have c0 : (1 : Int32) = 0 := of_decide_eq_true c0
    exact absurd c0 (by decide)
  · have c0 : ¬ ((1 : Int32) = 0) := of_decide_eq_false c0
    refine px_PW.steps kt_200.2 2 rfl ?_
    refine px_PW.callV kt_200.2 rfl rfl rfl rfl (mm_error 1 (by decide)) (by decide) (fun v h1 q => ?_)
    obtain ⟨rfl, rfl⟩ := q
    refine px_PW.steps kt_200.2 1 rfl ?_
    refine px_PW.ret kt_200.2 rfl rfl ?_
    have E : s_mjudgeB Z F sheet = (-1000000000 - 1) := rfl
    rw [E]
    exact ⟨rfl, _, _, px_sm.err, rfl⟩
def r_narS (f : Nat → Int32) (T J R : Nat) (e : Nat → Nat) (w P : Nat → Nat → Nat) (s : Nat) : Int32 := c_fold (fun r => r_nar (r_B (e r) (w s r) T J) (P s r)) (fun v o => if v ≤ o then v else o) R 0 9999
def r_cutS (f : Nat → Int32) (T J R : Nat) (e : Nat → Nat) (w P : Nat → Nat → Nat) (s : Nat) : Int32 := c_fold (fun r => nI (r_cuts (f 1) (r_B (e r) (w s r) T J) (P s r))) (fun v o => v + o) R 0 0
/-- m more STARTS from k on; the first one counts in any case -/
def s_mbst (nar cut : Nat → Int32) : Nat → Nat → Nat × Int32 × Int32 → Nat × Int32 × Int32
  | 0, _, a => a
  | m + 1, k, a => s_mbst nar cut m (k + 1) (if a.1 = 0 then (k, nar k, cut k) else if a.2.1 < nar k then (k, nar k, cut k) else if nar k = a.2.1 then (if a.2.2 ≤ cut k then a else (k, nar k, cut k)) else a)
theorem m_bst_loop {Z f : Nat → Int32} {F : Nat → Nat → Int32} {T J R : Nat} {e : Nat → Nat} {w P : Nat → Nat → Nat} (hTi : f 1 = nI T) (hT2 : T ≤ 200) (ok : ∀ s : Nat, 1 ≤ s → s ≤ T → r_ok (upd f 6 (nI s)) T J R e (w s) (P s)) {what was : Int32} {Q : Option Value → px_H → Prop} : ∀ (m k : Nat) (a : Nat × Int32 × Int32) (A B : Nat → Int32) (p x : Int32) (o7 o8 : Option Value), k + m = T + 1 → 1 ≤ k → a.1 < 1000 → (∀ (A B : Nat → Int32) (p x : Int32) (k2 : Nat) (o7 o8 : Option Value), px_PW 3 pc_176 Q 110 [some (.ref 1000), some (.int what), some (.int was), some (.int (nI (s_mbst (r_narS f T J R e w P) (r_cutS f T J R e w P) m k a).1)), some (.int (s_mbst (r_narS f T J R e w P) (r_cutS f T J R e w P) m k a).2.1), some (.int (s_mbst (r_narS f T J R e w P) (r_cutS f T J R e w P) m k a).2.2), some (.int (nI k2)), o7, o8] [] ([], px_MH (upd Z 5 p) (va_up (va_up (va_up F 0 (upd f 6 x)) 8 A) 9 B))) → px_PW 3 pc_176 Q 34 [some (.ref 1000), some (.int what), some (.int was), some (.int (nI a.1)), some (.int a.2.1), some (.int a.2.2), some (.int (nI k)), o7, o8] [] ([], px_MH (upd Z 5 p) (va_up (va_up (va_up F 0 (upd f 6 x)) 8 A) 9 B))
  | m, k, a, A, B, p, x, o7, o8, hk, hk1, ha, H => by
    refine px_PW.steps kt_176.2 4 rfl ?_
    refine px_PW.steps kt_176.2 1 rfl ?_
    refine px_PW.steps kt_176.2 1 rfl ?_
    refine px_PW.br (fun c0 => ?_) (fun c0 => ?_)
    · have c0 : ((upd f 6 x) 1) < (nI k) := of_decide_eq_true c0
      have c0 : T < k := (nI_ltI (a := T) (b := k) (by omega) (by omega)).mp (by rw [← hTi]; exact c0)
      obtain rfl : m = 0 := by omega
      exact H _ _ _ _ _ _ _
    · have c0 : ¬ (((upd f 6 x) 1) < (nI k)) := of_decide_eq_false c0
      have c0 : ¬ (T < k) := fun q => c0 (show f 1 < nI k from by rw [hTi]; exact (nI_ltI (a := T) (b := k) (by omega) (by omega)).mpr q)
      obtain ⟨m2, rfl⟩ : ∃ m2, m = m2 + 1 := ⟨m - 1, by omega⟩
      refine px_PW.steps kt_176.2 4 rfl ?_
      refine mr_0 kt_176.2 rfl (n := 6) rfl (by decide) ?_
      rw [zz_uu]
      refine px_PW.steps kt_176.2 2 rfl ?_
      refine px_PW.callV kt_176.2 rfl rfl rfl rfl (mm_all1 (f := upd f 6 (nI k)) (ok k (by omega) (by omega))) (by decide) (fun v h1 q => ?_)
      obtain ⟨rfl, A21, B21, p21, rfl⟩ := q
      refine px_PW.steps kt_176.2 3 rfl ?_
      refine px_PW.callV kt_176.2 rfl rfl rfl rfl (mm_all0 (f := upd f 6 (nI k)) (ok k (by omega) (by omega))) (by decide) (fun v h1 q => ?_)
      obtain ⟨rfl, A20, B20, p20, rfl⟩ := q
      refine px_PW.steps kt_176.2 3 rfl ?_
      refine px_PW.br (fun c1 => ?_) (fun c1 => ?_)
      · have c1 : (nI a.1) = 0 := of_decide_eq_true c1
        have c1 : a.1 = 0 := (nI_eq (b := 0) (by omega) (by omega)).mp c1
        refine px_PW.steps kt_176.2 8 rfl ?_
        have e0 : s_mbst (r_narS f T J R e w P) (r_cutS f T J R e w P) (m2 + 1) k a = s_mbst (r_narS f T J R e w P) (r_cutS f T J R e w P) m2 (k + 1) (k, (r_narS f T J R e w P) k, (r_cutS f T J R e w P) k) := congrArg (s_mbst (r_narS f T J R e w P) (r_cutS f T J R e w P) m2 (k + 1)) (if_pos c1)
        have g := m_bst_loop hTi hT2 ok (Z := Z) (F := F) (what := what) (was := was) (Q := Q) m2 (k + 1) (k, (r_narS f T J R e w P) k, (r_cutS f T J R e w P) k) A20 B20 p20 (nI k) (some (.int ((r_narS f T J R e w P) k))) (some (.int ((r_cutS f T J R e w P) k))) (by omega) (by omega) (by first | exact ha | (show k < 1000; omega)) (fun A B p x k9 o7 o8 => by have h := H A B p x k9 o7 o8; rw [e0] at h; exact h)
        rw [nI_succ k] at g
        exact g
      · have c1 : ¬ ((nI a.1) = 0) := of_decide_eq_false c1
        have c1 : ¬ (a.1 = 0) := fun q => c1 (by rw [q]; rfl)
        refine px_PW.steps kt_176.2 3 rfl ?_
        refine px_PW.br (fun c2 => ?_) (fun c2 => ?_)
        · have c2 : a.2.1 < ((r_narS f T J R e w P) k) := of_decide_eq_true c2
          refine px_PW.steps kt_176.2 8 rfl ?_
          have e0 : s_mbst (r_narS f T J R e w P) (r_cutS f T J R e w P) (m2 + 1) k a = s_mbst (r_narS f T J R e w P) (r_cutS f T J R e w P) m2 (k + 1) (k, (r_narS f T J R e w P) k, (r_cutS f T J R e w P) k) := congrArg (s_mbst (r_narS f T J R e w P) (r_cutS f T J R e w P) m2 (k + 1)) ((if_neg c1).trans (if_pos c2))
          have g := m_bst_loop hTi hT2 ok (Z := Z) (F := F) (what := what) (was := was) (Q := Q) m2 (k + 1) (k, (r_narS f T J R e w P) k, (r_cutS f T J R e w P) k) A20 B20 p20 (nI k) (some (.int ((r_narS f T J R e w P) k))) (some (.int ((r_cutS f T J R e w P) k))) (by omega) (by omega) (by first | exact ha | (show k < 1000; omega)) (fun A B p x k9 o7 o8 => by have h := H A B p x k9 o7 o8; rw [e0] at h; exact h)
          rw [nI_succ k] at g
          exact g
        · have c2 : ¬ (a.2.1 < ((r_narS f T J R e w P) k)) := of_decide_eq_false c2
          refine px_PW.steps kt_176.2 3 rfl ?_
          refine px_PW.br (fun c3 => ?_) (fun c3 => ?_)
          · have c3 : ¬ (((r_narS f T J R e w P) k) = a.2.1) := of_decide_eq_false (px_nt c3)
            refine px_PW.steps kt_176.2 2 rfl ?_
            have e0 : s_mbst (r_narS f T J R e w P) (r_cutS f T J R e w P) (m2 + 1) k a = s_mbst (r_narS f T J R e w P) (r_cutS f T J R e w P) m2 (k + 1) a := congrArg (s_mbst (r_narS f T J R e w P) (r_cutS f T J R e w P) m2 (k + 1)) ((if_neg c1).trans ((if_neg c2).trans (if_neg c3)))
            have g := m_bst_loop hTi hT2 ok (Z := Z) (F := F) (what := what) (was := was) (Q := Q) m2 (k + 1) a A20 B20 p20 (nI k) (some (.int ((r_narS f T J R e w P) k))) (some (.int ((r_cutS f T J R e w P) k))) (by omega) (by omega) (by first | exact ha | (show k < 1000; omega)) (fun A B p x k9 o7 o8 => by have h := H A B p x k9 o7 o8; rw [e0] at h; exact h)
            rw [nI_succ k] at g
            exact g
          · have c3 : ((r_narS f T J R e w P) k) = a.2.1 := of_decide_eq_true (px_nf c3)
            refine px_PW.steps kt_176.2 3 rfl ?_
            refine px_PW.br (fun c4 => ?_) (fun c4 => ?_)
            · have c4 : a.2.2 ≤ ((r_cutS f T J R e w P) k) := of_decide_eq_true c4
              refine px_PW.steps kt_176.2 2 rfl ?_
              have e0 : s_mbst (r_narS f T J R e w P) (r_cutS f T J R e w P) (m2 + 1) k a = s_mbst (r_narS f T J R e w P) (r_cutS f T J R e w P) m2 (k + 1) a := congrArg (s_mbst (r_narS f T J R e w P) (r_cutS f T J R e w P) m2 (k + 1)) ((if_neg c1).trans ((if_neg c2).trans ((if_pos c3).trans (if_pos c4))))
              have g := m_bst_loop hTi hT2 ok (Z := Z) (F := F) (what := what) (was := was) (Q := Q) m2 (k + 1) a A20 B20 p20 (nI k) (some (.int ((r_narS f T J R e w P) k))) (some (.int ((r_cutS f T J R e w P) k))) (by omega) (by omega) (by first | exact ha | (show k < 1000; omega)) (fun A B p x k9 o7 o8 => by have h := H A B p x k9 o7 o8; rw [e0] at h; exact h)
              rw [nI_succ k] at g
              exact g
            · have c4 : ¬ (a.2.2 ≤ ((r_cutS f T J R e w P) k)) := of_decide_eq_false c4
              refine px_PW.steps kt_176.2 8 rfl ?_
              have e0 : s_mbst (r_narS f T J R e w P) (r_cutS f T J R e w P) (m2 + 1) k a = s_mbst (r_narS f T J R e w P) (r_cutS f T J R e w P) m2 (k + 1) (k, (r_narS f T J R e w P) k, (r_cutS f T J R e w P) k) := congrArg (s_mbst (r_narS f T J R e w P) (r_cutS f T J R e w P) m2 (k + 1)) ((if_neg c1).trans ((if_neg c2).trans ((if_pos c3).trans (if_neg c4))))
              have g := m_bst_loop hTi hT2 ok (Z := Z) (F := F) (what := what) (was := was) (Q := Q) m2 (k + 1) (k, (r_narS f T J R e w P) k, (r_cutS f T J R e w P) k) A20 B20 p20 (nI k) (some (.int ((r_narS f T J R e w P) k))) (some (.int ((r_cutS f T J R e w P) k))) (by omega) (by omega) (by first | exact ha | (show k < 1000; omega)) (fun A B p x k9 o7 o8 => by have h := H A B p x k9 o7 o8; rw [e0] at h; exact h)
              rw [nI_succ k] at g
              exact g
def s_mbest (T J R : Nat) (e : Nat → Nat) (w P : Nat → Nat → Nat) (F : Nat → Nat → Int32) (what : Int32) : Int32 := if 0 ≤ what ∧ what ≤ 2 then (if what = 0 then nI (s_mbst (r_narS (F 0) T J R e w P) (r_cutS (F 0) T J R e w P) T 1 (0, 0, 0)).1 else if what = 1 then (s_mbst (r_narS (F 0) T J R e w P) (r_cutS (F 0) T J R e w P) T 1 (0, 0, 0)).2.1 else (s_mbst (r_narS (F 0) T J R e w P) (r_cutS (F 0) T J R e w P) T 1 (0, 0, 0)).2.2) else -1000000000 - 1
theorem kc_mbest {Z : Nat → Int32} {F : Nat → Nat → Int32} {T J R : Nat} {e : Nat → Nat} {w P : Nat → Nat → Nat} (hTi : (F 0) 1 = nI T) (hT2 : T ≤ 200) (ok : ∀ s : Nat, 1 ≤ s → s ≤ T → r_ok (upd (F 0) 6 (nI s)) T J R e (w s) (P s)) (what : Int32) : px_PM 4 176 [.ref 1000, .int what] ([], px_MH Z F) (fun r h' => r = some (.int (s_mbest T J R e w P F what)) ∧ ∃ Z' F', px_sm Z F Z' F' ∧ h' = ([], px_MH Z' F')) := by
  refine px_PM.start (nL := 9) (code := pc_176) rfl rfl ?_
  refine px_PW.steps kt_176.2 3 rfl ?_
  refine px_PW.callS kt_176.2 rfl rfl rfl (cm_117 _ _ _ _) (by decide) (fun v h1 q => ?_)
  obtain ⟨rfl, rfl⟩ := q
  refine px_PW.steps kt_176.2 1 rfl ?_
  refine px_PW.br (fun c0 => ?_) (fun c0 => ?_)
  · have c0 : 0 ≤ what ∧ what ≤ 2 := px_b1n (of_decide_eq_false (px_nt c0))
    refine px_PW.steps kt_176.2 3 rfl ?_
    refine px_PW.steps kt_176.2 1 rfl ?_
    refine px_PW.steps kt_176.2 9 rfl ?_
    refine px_PW.hp (h' := ([], px_MH (upd Z 5 (Z 5)) (va_up (va_up (va_up F 0 (upd (F 0) 6 (F 0 6))) 8 (F 8)) 9 (F 9)))) (by rw [zz_ui (F 0) 6, ← zz_can]) ?_
    refine m_bst_loop (f := F 0) hTi hT2 ok (what := what) T 1 (0, 0, 0) (F 8) (F 9) (Z 5) (F 0 6) none none (by omega) (by omega) (by decide) (fun A B p x k9 o7 o8 => ?_)
    refine px_PW.steps kt_176.2 4 rfl ?_
    refine mr_0 kt_176.2 rfl (n := 6) rfl (by decide) ?_
    first | rw [zz_uu, show upd (F 0) 6 (F 0 (Int32.toNatClampNeg 6)) = F 0 from zz_ui (F 0) 6] | rw [zz_uu, zz_ui]
    refine px_PW.steps kt_176.2 2 rfl ?_
    refine px_PW.br (fun c1 => ?_) (fun c1 => ?_)
    · have c1 : ¬ (what = 0) := of_decide_eq_false (px_nt c1)
      refine px_PW.steps kt_176.2 3 rfl ?_
      refine px_PW.br (fun c2 => ?_) (fun c2 => ?_)
      · have c2 : ¬ (what = 1) := of_decide_eq_false (px_nt c2)
        refine px_PW.steps kt_176.2 1 rfl ?_
        refine px_PW.ret kt_176.2 rfl rfl ?_
        have E : s_mbest T J R e w P F what = (s_mbst (r_narS (F 0) T J R e w P) (r_cutS (F 0) T J R e w P) T 1 (0, 0, 0)).2.2 := (if_pos c0).trans ((if_neg c1).trans (if_neg c2))
        rw [E]
        exact ⟨rfl, _, _, zz_sm, rfl⟩
      · have c2 : what = 1 := of_decide_eq_true (px_nf c2)
        refine px_PW.steps kt_176.2 2 rfl ?_
        refine px_PW.ret kt_176.2 rfl rfl ?_
        have E : s_mbest T J R e w P F what = (s_mbst (r_narS (F 0) T J R e w P) (r_cutS (F 0) T J R e w P) T 1 (0, 0, 0)).2.1 := (if_pos c0).trans ((if_neg c1).trans (if_pos c2))
        rw [E]
        exact ⟨rfl, _, _, zz_sm, rfl⟩
    · have c1 : what = 0 := of_decide_eq_true (px_nf c1)
      refine px_PW.steps kt_176.2 2 rfl ?_
      refine px_PW.ret kt_176.2 rfl rfl ?_
      have E : s_mbest T J R e w P F what = (nI (s_mbst (r_narS (F 0) T J R e w P) (r_cutS (F 0) T J R e w P) T 1 (0, 0, 0)).1) := (if_pos c0).trans (if_pos c1)
      rw [E]
      exact ⟨rfl, _, _, zz_sm, rfl⟩
  · have c0 : ¬ (0 ≤ what ∧ what ≤ 2) := px_b1z (of_decide_eq_true (px_nf c0))
    refine px_PW.steps kt_176.2 2 rfl ?_
    refine px_PW.callV kt_176.2 rfl rfl rfl rfl (mm_error 1 (by decide)) (by decide) (fun v h1 q => ?_)
    obtain ⟨rfl, rfl⟩ := q
    refine px_PW.ret kt_176.2 rfl rfl ?_
    have E : s_mbest T J R e w P F what = (-1000000000 - 1) := if_neg c0
    rw [E]
    exact ⟨rfl, _, _, px_sm.err, rfl⟩
theorem m_odd_loop {Z f : Nat → Int32} {F : Nat → Nat → Int32} {T J R : Nat} {e : Nat → Nat} {w P : Nat → Nat → Nat} (hTi : f 1 = nI T) (hT2 : T ≤ 200) (ok : ∀ s : Nat, 1 ≤ s → s ≤ T → r_ok (upd f 6 (nI s)) T J R e (w s) (P s)) {v part was : Int32} {Q : Option Value → px_H → Prop} : ∀ (m k n : Nat) (A B : Nat → Int32) (p x : Int32), k + m = T + 1 → 1 ≤ k → (∀ (A B : Nat → Int32) (p x : Int32) (k2 : Nat), px_PW 3 pc_181 Q 85 [some (.ref 1000), some (.int v), some (.int part), some (.int was), some (.int (nI (s_odd (r_narS f T J R e w P) v m k n))), some (.int (nI k2))] [] ([], px_MH (upd Z 5 p) (va_up (va_up (va_up F 0 (upd f 6 x)) 8 A) 9 B))) → px_PW 3 pc_181 Q 40 [some (.ref 1000), some (.int v), some (.int part), some (.int was), some (.int (nI n)), some (.int (nI k))] [] ([], px_MH (upd Z 5 p) (va_up (va_up (va_up F 0 (upd f 6 x)) 8 A) 9 B))
  | m, k, n, A, B, p, x, hk, hk1, H => by
    refine px_PW.steps kt_181.2 4 rfl ?_
    refine px_PW.steps kt_181.2 1 rfl ?_
    refine px_PW.steps kt_181.2 1 rfl ?_
    refine px_PW.br (fun c0 => ?_) (fun c0 => ?_)
    · have c0 : ((upd f 6 x) 1) < (nI k) := of_decide_eq_true c0
      have c0 : T < k := (nI_ltI (a := T) (b := k) (by omega) (by omega)).mp (by rw [← hTi]; exact c0)
      obtain rfl : m = 0 := by omega
      exact H _ _ _ _ _
    · have c0 : ¬ (((upd f 6 x) 1) < (nI k)) := of_decide_eq_false c0
      have c0 : ¬ (T < k) := fun q => c0 (show f 1 < nI k from by rw [hTi]; exact (nI_ltI (a := T) (b := k) (by omega) (by omega)).mpr q)
      obtain ⟨m2, rfl⟩ : ∃ m2, m = m2 + 1 := ⟨m - 1, by omega⟩
      refine px_PW.steps kt_181.2 4 rfl ?_
      refine mr_0 kt_181.2 rfl (n := 6) rfl (by decide) ?_
      rw [zz_uu]
      refine px_PW.steps kt_181.2 3 rfl ?_
      refine px_PW.callV kt_181.2 rfl rfl rfl rfl (mm_all1 (f := upd f 6 (nI k)) (ok k (by omega) (by omega))) (by decide) (fun v h1 q => ?_)
      obtain ⟨rfl, A21, B21, p21, rfl⟩ := q
      refine px_PW.steps kt_181.2 2 rfl ?_
      refine px_PW.br (fun c1 => ?_) (fun c1 => ?_)
      · have c1 : ((r_narS f T J R e w P) k) < v := of_decide_eq_true c1
        refine px_PW.steps kt_181.2 5 rfl ?_
        have e0 : s_odd (r_narS f T J R e w P) v (m2 + 1) k n = s_odd (r_narS f T J R e w P) v m2 (k + 1) n := congrArg (s_odd (r_narS f T J R e w P) v m2 (k + 1)) (if_pos c1)
        have g := m_odd_loop hTi hT2 ok (Z := Z) (F := F) (v := v) (part := part) (was := was) (Q := Q) m2 (k + 1) n A21 B21 p21 (nI k) (by omega) (by omega) (fun A B p x k9 => by have h := H A B p x k9; rw [e0] at h; exact h)
        refine px_PW.lc (lv' := [some (.ref 1000), some (.int v), some (.int part), some (.int was), some (.int (nI n)), some (.int (nI (k + 1)))]) (show ([some (.ref 1000), some (.int v), some (.int part), some (.int was), some (.int (nI n + 0)), some (.int (nI k + 1))] : px_L) = _ from by rw [← nI_succ k, Int32.add_zero]) ?_
        exact g
      · have c1 : ¬ (((r_narS f T J R e w P) k) < v) := of_decide_eq_false c1
        refine px_PW.steps kt_181.2 6 rfl ?_
        have e0 : s_odd (r_narS f T J R e w P) v (m2 + 1) k n = s_odd (r_narS f T J R e w P) v m2 (k + 1) (n + 1) := congrArg (s_odd (r_narS f T J R e w P) v m2 (k + 1)) (if_neg c1)
        have g := m_odd_loop hTi hT2 ok (Z := Z) (F := F) (v := v) (part := part) (was := was) (Q := Q) m2 (k + 1) (n + 1) A21 B21 p21 (nI k) (by omega) (by omega) (fun A B p x k9 => by have h := H A B p x k9; rw [e0] at h; exact h)
        refine px_PW.lc (lv' := [some (.ref 1000), some (.int v), some (.int part), some (.int was), some (.int (nI (n + 1))), some (.int (nI (k + 1)))]) (show ([some (.ref 1000), some (.int v), some (.int part), some (.int was), some (.int (nI n + 1)), some (.int (nI k + 1))] : px_L) = _ from by rw [← nI_succ k, ← nI_succ n]) ?_
        exact g
def s_modds (T J R : Nat) (e : Nat → Nat) (w P : Nat → Nat → Nat) (F : Nat → Nat → Int32) (v part : Int32) : Int32 := if 0 ≤ v ∧ v ≤ 200 then (if 0 ≤ part ∧ part ≤ 1 then (if part = 0 then nI ((s_odd (r_narS (F 0) T J R e w P) v T 1 0) / Nat.gcd (s_odd (r_narS (F 0) T J R e w P) v T 1 0) T) else nI (T / Nat.gcd (s_odd (r_narS (F 0) T J R e w P) v T 1 0) T)) else -1000000000 - 1) else -1000000000 - 1
theorem kc_modds {Z : Nat → Int32} {F : Nat → Nat → Int32} {T J R : Nat} {e : Nat → Nat} {w P : Nat → Nat → Nat} (hTi : (F 0) 1 = nI T) (hT2 : T ≤ 200) (ok : ∀ s : Nat, 1 ≤ s → s ≤ T → r_ok (upd (F 0) 6 (nI s)) T J R e (w s) (P s)) (hT1 : 1 ≤ T) (v part : Int32) : px_PM 4 181 [.ref 1000, .int v, .int part] ([], px_MH Z F) (fun r h' => r = some (.int (s_modds T J R e w P F v part)) ∧ ∃ Z' F', px_sm Z F Z' F' ∧ h' = ([], px_MH Z' F')) := by
  refine px_PM.start (nL := 6) (code := pc_181) rfl rfl ?_
  refine px_PW.steps kt_181.2 3 rfl ?_
  refine px_PW.callS kt_181.2 rfl rfl rfl (cm_117 _ _ _ _) (by decide) (fun v h1 q => ?_)
  obtain ⟨rfl, rfl⟩ := q
  refine px_PW.steps kt_181.2 1 rfl ?_
  refine px_PW.br (fun c0 => ?_) (fun c0 => ?_)
  · have c0 : ¬ (0 ≤ v ∧ v ≤ 200) := px_b1z (of_decide_eq_true c0)
    refine px_PW.steps kt_181.2 2 rfl ?_
    refine px_PW.callV kt_181.2 rfl rfl rfl rfl (mm_error 1 (by decide)) (by decide) (fun v h1 q => ?_)
    obtain ⟨rfl, rfl⟩ := q
    refine px_PW.ret kt_181.2 rfl rfl ?_
    have E : s_modds T J R e w P F v part = (-1000000000 - 1) := if_neg c0
    rw [E]
    exact ⟨rfl, _, _, px_sm.err, rfl⟩
  · have c0 : 0 ≤ v ∧ v ≤ 200 := px_b1n (of_decide_eq_false c0)
    refine px_PW.steps kt_181.2 3 rfl ?_
    refine px_PW.callS kt_181.2 rfl rfl rfl (cm_117 _ _ _ _) (by decide) (fun v h1 q => ?_)
    obtain ⟨rfl, rfl⟩ := q
    refine px_PW.steps kt_181.2 1 rfl ?_
    refine px_PW.br (fun c1 => ?_) (fun c1 => ?_)
    · have c1 : 0 ≤ part ∧ part ≤ 1 := px_b1n (of_decide_eq_false (px_nt c1))
      refine px_PW.steps kt_181.2 3 rfl ?_
      refine px_PW.steps kt_181.2 1 rfl ?_
      refine px_PW.steps kt_181.2 5 rfl ?_
      refine px_PW.hp (h' := ([], px_MH (upd Z 5 (Z 5)) (va_up (va_up (va_up F 0 (upd (F 0) 6 (F 0 6))) 8 (F 8)) 9 (F 9)))) (by rw [zz_ui (F 0) 6, ← zz_can]) ?_
      refine m_odd_loop (f := F 0) hTi hT2 ok (v := v) (part := part) T 1 0 (F 8) (F 9) (Z 5) (F 0 6) (by omega) (by omega) (fun A B p x k9 => ?_)
      refine px_PW.steps kt_181.2 4 rfl ?_
      refine mr_0 kt_181.2 rfl (n := 6) rfl (by decide) ?_
      first | rw [zz_uu, show upd (F 0) 6 (F 0 (Int32.toNatClampNeg 6)) = F 0 from zz_ui (F 0) 6] | rw [zz_uu, zz_ui]
      refine px_PW.steps kt_181.2 4 rfl ?_
      refine px_PW.steps kt_181.2 1 rfl ?_
      refine px_PW.callS kt_181.2 rfl rfl rfl (mm_div (x := (s_odd (r_narS (F 0) T J R e w P) v T 1 0)) (y := T) (by have := s_odd_le (r_narS (F 0) T J R e w P) v T 1 0; omega) (by omega) rfl (show _ = nI T from hTi) _) (by decide) (fun v h1 q => ?_)
      obtain ⟨rfl, rfl⟩ := q
      refine px_PW.steps kt_181.2 3 rfl ?_
      refine px_PW.br (fun c2 => ?_) (fun c2 => ?_)
      · have c2 : ¬ (part = 0) := of_decide_eq_false (px_nt c2)
        refine px_PW.steps kt_181.2 3 rfl ?_
        refine px_PW.steps kt_181.2 1 rfl ?_
        refine px_PW.steps kt_181.2 1 rfl ?_
        have hg1 : 0 < Nat.gcd (s_odd (r_narS (F 0) T J R e w P) v T 1 0) T := Nat.gcd_pos_of_pos_right _ (by omega)
        have hg2 : Nat.gcd (s_odd (r_narS (F 0) T J R e w P) v T 1 0) T ≤ T := Nat.gcd_le_right _ (by omega)
        have ho := s_odd_le (r_narS (F 0) T J R e w P) v T 1 0
        refine px_PW.divN kt_181.2 rfl (a := T) (b := Nat.gcd (s_odd (r_narS (F 0) T J R e w P) v T 1 0) T) (show _ = nI T from hTi) rfl (by omega) hg1 (by omega) ?_
        refine px_PW.ret kt_181.2 rfl rfl ?_
        have E : s_modds T J R e w P F v part = (nI (T / Nat.gcd (s_odd (r_narS (F 0) T J R e w P) v T 1 0) T)) := (if_pos c0).trans ((if_pos c1).trans (if_neg c2))
        rw [E]
        exact ⟨rfl, _, _, zz_sm, rfl⟩
      · have c2 : part = 0 := of_decide_eq_true (px_nf c2)
        refine px_PW.steps kt_181.2 2 rfl ?_
        have hg1 : 0 < Nat.gcd (s_odd (r_narS (F 0) T J R e w P) v T 1 0) T := Nat.gcd_pos_of_pos_right _ (by omega)
        have hg2 : Nat.gcd (s_odd (r_narS (F 0) T J R e w P) v T 1 0) T ≤ T := Nat.gcd_le_right _ (by omega)
        have ho := s_odd_le (r_narS (F 0) T J R e w P) v T 1 0
        refine px_PW.divN kt_181.2 rfl (a := (s_odd (r_narS (F 0) T J R e w P) v T 1 0)) (b := Nat.gcd (s_odd (r_narS (F 0) T J R e w P) v T 1 0) T) rfl rfl (by omega) hg1 (by omega) ?_
        refine px_PW.steps kt_181.2 1 rfl ?_
        refine px_PW.ret kt_181.2 rfl rfl ?_
        have E : s_modds T J R e w P F v part = (nI ((s_odd (r_narS (F 0) T J R e w P) v T 1 0) / Nat.gcd (s_odd (r_narS (F 0) T J R e w P) v T 1 0) T)) := (if_pos c0).trans ((if_pos c1).trans (if_pos c2))
        rw [E]
        exact ⟨rfl, _, _, zz_sm, rfl⟩
    · have c1 : ¬ (0 ≤ part ∧ part ≤ 1) := px_b1z (of_decide_eq_true (px_nf c1))
      refine px_PW.steps kt_181.2 2 rfl ?_
      refine px_PW.callV kt_181.2 rfl rfl rfl rfl (mm_error 1 (by decide)) (by decide) (fun v h1 q => ?_)
      obtain ⟨rfl, rfl⟩ := q
      refine px_PW.ret kt_181.2 rfl rfl ?_
      have E : s_modds T J R e w P F v part = (-1000000000 - 1) := (if_pos c0).trans (if_neg c1)
      rw [E]
      exact ⟨rfl, _, _, px_sm.err, rfl⟩
def r_fitG (F : Nat → Nat → Int32) (k S T J : Nat) (e : Nat → Nat) (w P : Nat → Nat → Nat) (s : Nat) : Bool := decide (nI (zz_run (s_mro F k (r_B (e 0) (w s 0) T J)) (min S (P s 0)) 0) = nI S)
theorem m_fit_loop {Z f : Nat → Int32} {F : Nat → Nat → Int32} {T J R : Nat} {e : Nat → Nat} {w P : Nat → Nat → Nat} (hTi : f 1 = nI T) (hT2 : T ≤ 200) (ok : ∀ s : Nat, 1 ≤ s → s ≤ T → r_ok (upd f 6 (nI s)) T J R e (w s) (P s)) {k S : Nat} (hk : k < 4) (hS : F 12 k = nI S) (hS24 : S ≤ 24) (hR1 : 1 ≤ R) {what why was : Int32} {Q : Option Value → px_H → Prop} : ∀ (s : Nat) (a : Int32 × Int32) (A B : Nat → Int32) (p x : Int32) (o8 : Option Value), s ≤ T → (∀ (A B : Nat → Int32) (p x : Int32) (o8 : Option Value), px_PW 3 pc_183 Q 122 [some (.ref 1000), some (.int (nI k)), some (.int what), some (.int why), some (.int was), some (.int (s_fit (r_fitG F k S T J e w P) s a).1), some (.int (s_fit (r_fitG F k S T J e w P) s a).2), some (.int (nI 0)), o8] [] ([], px_MH (upd Z 5 p) (va_up (va_up (va_up F 0 (upd f 6 x)) 8 A) 9 B))) → px_PW 3 pc_183 Q 52 [some (.ref 1000), some (.int (nI k)), some (.int what), some (.int why), some (.int was), some (.int a.1), some (.int a.2), some (.int (nI s)), o8] [] ([], px_MH (upd Z 5 p) (va_up (va_up (va_up F 0 (upd f 6 x)) 8 A) 9 B))
  | s, a, A, B, p, x, o8, hs, H => by
    refine px_PW.steps kt_183.2 2 rfl ?_
    refine px_PW.br (fun c0 => ?_) (fun c0 => ?_)
    · have c0 : (nI s) ≤ 0 := of_decide_eq_true c0
      have c0 : s ≤ 0 := (nI_leI (a := s) (b := 0) (by omega) (by omega)).mp c0
      obtain rfl : s = 0 := by omega
      exact H _ _ _ _ _
    · have c0 : ¬ ((nI s) ≤ 0) := of_decide_eq_false c0
      have c0 : ¬ (s ≤ 0) := fun q => c0 ((nI_leI (a := s) (b := 0) (by omega) (by omega)).mpr q)
      refine px_PW.steps kt_183.2 4 rfl ?_
      refine mr_0 kt_183.2 rfl (n := 6) rfl (by decide) ?_
      rw [zz_uu]
      refine px_PW.steps kt_183.2 2 rfl ?_
      refine px_PW.callV kt_183.2 rfl rfl rfl rfl (mm_ro (F := F) (f := upd f 6 (nI s)) hk hS hS24 (ok s (by omega) hs).1 (ok s (by omega) hs).2.1 (ok s (by omega) hs).2.2.2.1 (ok s (by omega) hs).2.2.2.2.1 ((ok s (by omega) hs).2.2.2.2.2.2 0 (by omega))) (by decide) (fun v h1 q => ?_)
      obtain ⟨rfl, A9, B9, rfl⟩ := q
      refine px_PW.steps kt_183.2 3 rfl ?_
      refine px_PW.aldN kt_183.2 rfl rfl (n := k) rfl hk ?_
      rw [show (va_up (va_up (va_up F 0 (upd f 6 (nI s))) 8 A9) 9 B9) 12 k = nI S from hS]
      refine px_PW.steps kt_183.2 1 rfl ?_
      refine px_PW.br (fun c1 => ?_) (fun c1 => ?_)
      · have c1 : ¬ ((nI (zz_run (s_mro F k (r_B (e 0) (w s 0) T J)) (min S (P s 0)) 0)) = (nI S)) := of_decide_eq_false (px_nt c1)
        refine px_PW.steps kt_183.2 5 rfl ?_
        refine px_PW.br (fun c2 => ?_) (fun c2 => ?_)
        · have c2 : (0 : Int32) = 0 := of_decide_eq_true c2
          refine px_PW.steps kt_183.2 5 rfl ?_
          refine px_PW.br (fun c3 => ?_) (fun c3 => ?_)
          · have c3 : (0 : Int32) = 0 := of_decide_eq_true c3
            refine px_PW.steps kt_183.2 4 rfl ?_
            obtain ⟨t, ht⟩ : ∃ t, s = t + 1 := ⟨s - 1, by omega⟩
            have e0 : s_fit (r_fitG F k S T J e w P) s a = s_fit (r_fitG F k S T J e w P) t a := by subst ht; exact congrArg (s_fit (r_fitG F k S T J e w P) t) (if_neg (fun h => c1 (of_decide_eq_true h)))
            have g := m_fit_loop hTi hT2 ok hk hS hS24 hR1 (Z := Z) (what := what) (why := why) (was := was) (Q := Q) t a A9 B9 (nI (P s 0)) (nI s) (some (.int 0)) (by omega) (fun A B p x o8 => by have h := H A B p x o8; rw [e0] at h; exact h)
            have e : nI s + -1 = nI t := by rw [ht]; exact zz_dec t
            refine px_PW.lc (lv' := [some (.ref 1000), some (.int (nI k)), some (.int what), some (.int why), some (.int was), some (.int a.1), some (.int a.2), some (.int (nI t)), some (.int 0)]) (show ([some (.ref 1000), some (.int (nI k)), some (.int what), some (.int why), some (.int was), some (.int (a.1 + 0)), some (.int a.2), some (.int (nI s + -1)), some (.int 0)] : px_L) = _ from by rw [e, Int32.add_zero]) ?_
            exact g
          · have c3 : ¬ ((0 : Int32) = 0) := of_decide_eq_false c3
            exact absurd (by decide) c3
        · have c2 : ¬ ((0 : Int32) = 0) := of_decide_eq_false c2
          exact absurd (by decide) c2
      · have c1 : (nI (zz_run (s_mro F k (r_B (e 0) (w s 0) T J)) (min S (P s 0)) 0)) = (nI S) := of_decide_eq_true (px_nf c1)
        refine px_PW.steps kt_183.2 6 rfl ?_
        refine px_PW.br (fun c4 => ?_) (fun c4 => ?_)
        · have c4 : (1 : Int32) = 0 := of_decide_eq_true c4
          exact absurd c4 (by decide)
        · have c4 : ¬ ((1 : Int32) = 0) := of_decide_eq_false c4
          refine px_PW.steps kt_183.2 6 rfl ?_
          refine px_PW.br (fun c5 => ?_) (fun c5 => ?_)
          · have c5 : (1 : Int32) = 0 := of_decide_eq_true c5
            exact absurd c5 (by decide)
          · have c5 : ¬ ((1 : Int32) = 0) := of_decide_eq_false c5
            refine px_PW.steps kt_183.2 5 rfl ?_
            obtain ⟨t, ht⟩ : ∃ t, s = t + 1 := ⟨s - 1, by omega⟩
            have e0 : s_fit (r_fitG F k S T J e w P) s a = s_fit (r_fitG F k S T J e w P) t (a.1 + 1, nI s) := by subst ht; exact congrArg (s_fit (r_fitG F k S T J e w P) t) (if_pos (decide_eq_true c1))
            have g := m_fit_loop hTi hT2 ok hk hS hS24 hR1 (Z := Z) (what := what) (why := why) (was := was) (Q := Q) t (a.1 + 1, nI s) A9 B9 (nI (P s 0)) (nI s) (some (.int 1)) (by omega) (fun A B p x o8 => by have h := H A B p x o8; rw [e0] at h; exact h)
            have e : nI s + -1 = nI t := by rw [ht]; exact zz_dec t
            refine px_PW.lc (lv' := [some (.ref 1000), some (.int (nI k)), some (.int what), some (.int why), some (.int was), some (.int (a.1 + 1, nI s).1), some (.int (a.1 + 1, nI s).2), some (.int (nI t)), some (.int 1)]) (show ([some (.ref 1000), some (.int (nI k)), some (.int what), some (.int why), some (.int was), some (.int (a.1 + 1)), some (.int (nI s)), some (.int (nI s + -1)), some (.int 1)] : px_L) = _ from by rw [e]) ?_
            exact g
def s_mfits (T J : Nat) (e : Nat → Nat) (w P : Nat → Nat → Nat) (S : Nat) (F : Nat → Nat → Int32) (k : Nat) (what : Int32) : Int32 := if 0 ≤ what ∧ what ≤ 1 then (if s_lacks F k = 0 then (if what = 0 then (s_fit (r_fitG F k S T J e w P) T (0, 0)).1 else if (s_fit (r_fitG F k S T J e w P) T (0, 0)).1 = 0 then -1000000000 - 2 else (s_fit (r_fitG F k S T J e w P) T (0, 0)).2) else -1000000000 - 2) else -1000000000 - 1
theorem kc_mfits {Z : Nat → Int32} {F : Nat → Nat → Int32} {T J R : Nat} {e : Nat → Nat} {w P : Nat → Nat → Nat} (hTi : (F 0) 1 = nI T) (hT2 : T ≤ 200) (ok : ∀ s : Nat, 1 ≤ s → s ≤ T → r_ok (upd (F 0) 6 (nI s)) T J R e (w s) (P s)) {k S : Nat} (hk : k < 4) (hS : F 12 k = nI S) (hS24 : S ≤ 24) (hR1 : 1 ≤ R) (what : Int32) : px_PM 4 183 [.ref 1000, .int (nI k), .int what] ([], px_MH Z F) (fun r h' => r = some (.int (s_mfits T J e w P S F k what)) ∧ ∃ Z' F', px_sm Z F Z' F' ∧ h' = ([], px_MH Z' F')) := by
  refine px_PM.start (nL := 9) (code := pc_183) rfl rfl ?_
  refine px_PW.steps kt_183.2 3 rfl ?_
  refine px_PW.callS kt_183.2 rfl rfl rfl (cm_117 _ _ _ _) (by decide) (fun v h1 q => ?_)
  obtain ⟨rfl, rfl⟩ := q
  refine px_PW.steps kt_183.2 1 rfl ?_
  refine px_PW.br (fun c0 => ?_) (fun c0 => ?_)
  · have c0 : ¬ (0 ≤ what ∧ what ≤ 1) := px_b1z (of_decide_eq_true c0)
    refine px_PW.steps kt_183.2 4 rfl ?_
    refine px_PW.br (fun c1 => ?_) (fun c1 => ?_)
    · have c1 : (1 : Int32) = 0 := of_decide_eq_true c1
      exact absurd c1 (by decide)
    · have c1 : ¬ ((1 : Int32) = 0) := of_decide_eq_false c1
      refine px_PW.steps kt_183.2 2 rfl ?_
      refine px_PW.callV kt_183.2 rfl rfl rfl rfl (mm_error 1 (by decide)) (by decide) (fun v h1 q => ?_)
      obtain ⟨rfl, rfl⟩ := q
      refine px_PW.ret kt_183.2 rfl rfl ?_
      have E : s_mfits T J e w P S F k what = (-1000000000 - 1) := if_neg c0
      rw [E]
      exact ⟨rfl, _, _, px_sm.err, rfl⟩
  · have c0 : 0 ≤ what ∧ what ≤ 1 := px_b1n (of_decide_eq_false c0)
    refine px_PW.steps kt_183.2 2 rfl ?_
    refine px_PW.callV kt_183.2 rfl rfl rfl rfl (mm_lacks hk) (by decide) (fun v h1 q => ?_)
    obtain ⟨rfl, rfl⟩ := q
    refine px_PW.steps kt_183.2 4 rfl ?_
    refine px_PW.br (fun c2 => ?_) (fun c2 => ?_)
    · have c2 : (s_lacks F k) = 0 := of_decide_eq_true c2
      refine px_PW.steps kt_183.2 3 rfl ?_
      refine px_PW.steps kt_183.2 1 rfl ?_
      refine px_PW.steps kt_183.2 8 rfl ?_
      refine px_PW.steps kt_183.2 1 rfl ?_
      refine px_PW.steps kt_183.2 1 rfl ?_
      refine px_PW.hp (h' := ([], px_MH (upd Z 5 (Z 5)) (va_up (va_up (va_up F 0 (upd (F 0) 6 (F 0 6))) 8 (F 8)) 9 (F 9)))) (by rw [zz_ui (F 0) 6, ← zz_can]) ?_
      refine px_PW.lc (lv' := [some (.ref 1000), some (.int (nI k)), some (.int what), some (.int (s_lacks F k)), some (.int (F 0 6)), some (.int ((0 : Int32), (0 : Int32)).1), some (.int ((0 : Int32), (0 : Int32)).2), some (.int (nI T)), none]) (by rw [← hTi]; rfl) ?_
      refine m_fit_loop (f := F 0) hTi hT2 ok hk hS hS24 hR1 (what := what) (why := s_lacks F k) (was := F 0 6) T (0, 0) (F 8) (F 9) (Z 5) (F 0 6) none (Nat.le_refl T) (fun A B p x o8 => ?_)
      refine px_PW.steps kt_183.2 4 rfl ?_
      refine mr_0 kt_183.2 rfl (n := 6) rfl (by decide) ?_
      first | rw [zz_uu, show upd (F 0) 6 (F 0 (Int32.toNatClampNeg 6)) = F 0 from zz_ui (F 0) 6] | rw [zz_uu, zz_ui]
      refine px_PW.steps kt_183.2 2 rfl ?_
      refine px_PW.br (fun c3 => ?_) (fun c3 => ?_)
      · have c3 : ¬ (what = 0) := of_decide_eq_false (px_nt c3)
        refine px_PW.steps kt_183.2 2 rfl ?_
        refine px_PW.br (fun c4 => ?_) (fun c4 => ?_)
        · have c4 : ¬ ((s_fit (r_fitG F k S T J e w P) T (0, 0)).1 = 0) := of_decide_eq_false (px_nt c4)
          refine px_PW.steps kt_183.2 1 rfl ?_
          refine px_PW.ret kt_183.2 rfl rfl ?_
          have E : s_mfits T J e w P S F k what = (s_fit (r_fitG F k S T J e w P) T (0, 0)).2 := (if_pos c0).trans ((if_pos c2).trans ((if_neg c3).trans (if_neg c4)))
          rw [E]
          exact ⟨rfl, _, _, zz_sm, rfl⟩
        · have c4 : (s_fit (r_fitG F k S T J e w P) T (0, 0)).1 = 0 := of_decide_eq_true (px_nf c4)
          refine px_PW.steps kt_183.2 2 rfl ?_
          refine px_PW.callV kt_183.2 rfl rfl rfl rfl (mm_error 2 (by decide)) (by decide) (fun v h1 q => ?_)
          obtain ⟨rfl, rfl⟩ := q
          refine px_PW.steps kt_183.2 1 rfl ?_
          refine px_PW.ret kt_183.2 rfl rfl ?_
          have E : s_mfits T J e w P S F k what = (-1000000000 - 2) := (if_pos c0).trans ((if_pos c2).trans ((if_neg c3).trans (if_pos c4)))
          rw [E]
          exact ⟨rfl, _, _, (zz_sm.tr px_sm.err), rfl⟩
      · have c3 : what = 0 := of_decide_eq_true (px_nf c3)
        refine px_PW.steps kt_183.2 2 rfl ?_
        refine px_PW.ret kt_183.2 rfl rfl ?_
        have E : s_mfits T J e w P S F k what = (s_fit (r_fitG F k S T J e w P) T (0, 0)).1 := (if_pos c0).trans ((if_pos c2).trans (if_pos c3))
        rw [E]
        exact ⟨rfl, _, _, zz_sm, rfl⟩
    · have c2 : ¬ ((s_lacks F k) = 0) := of_decide_eq_false c2
      refine px_PW.steps kt_183.2 2 rfl ?_
      refine px_PW.callV kt_183.2 rfl rfl rfl rfl (mm_errorL hk c2) (by decide) (fun v h1 q => ?_)
      obtain ⟨rfl, rfl⟩ := q
      refine px_PW.ret kt_183.2 rfl rfl ?_
      have E : s_mfits T J e w P S F k what = (-1000000000 - 2) := (if_pos c0).trans (if_neg c2)
      rw [E]
      exact ⟨rfl, _, _, px_sm.err, rfl⟩
def s_mfitsB (Z : Nat → Int32) (F : Nat → Nat → Int32) (sheet : Int32) (what : Int32) : Int32 := (if 0 ≤ what ∧ what ≤ 1 then (-1000000000 - 1) else (-1000000000 - 1))
theorem kc_mfitsB {Z : Nat → Int32} {F : Nat → Nat → Int32}  (sheet : Int32) (what : Int32) (hb : sheet < 0 ∨ 4 ≤ sheet) : px_PM 4 183 [.ref 1000, .int sheet, .int what] ([], px_MH Z F) (fun r h' => r = some (.int (s_mfitsB Z F sheet what)) ∧ ∃ Z' F', px_sm Z F Z' F' ∧ h' = ([], px_MH Z' F')) := by
  refine px_PM.start (nL := 9) (code := pc_183) rfl rfl ?_
  refine px_PW.steps kt_183.2 3 rfl ?_
  refine px_PW.callS kt_183.2 rfl rfl rfl (cm_117 _ _ _ _) (by decide) (fun v h1 q => ?_)
  obtain ⟨rfl, rfl⟩ := q
  refine px_PW.steps kt_183.2 1 rfl ?_
  refine px_PW.br (fun c0 => ?_) (fun c0 => ?_)
  · have c0 : ¬ (0 ≤ what ∧ what ≤ 1) := px_b1z (of_decide_eq_true c0)
    refine px_PW.steps kt_183.2 4 rfl ?_
    refine px_PW.br (fun c1 => ?_) (fun c1 => ?_)
    · have c1 : (1 : Int32) = 0 := of_decide_eq_true c1
      exact absurd c1 (by decide)
    · have c1 : ¬ ((1 : Int32) = 0) := of_decide_eq_false c1
      refine px_PW.steps kt_183.2 2 rfl ?_
      refine px_PW.callV kt_183.2 rfl rfl rfl rfl (mm_error 1 (by decide)) (by decide) (fun v h1 q => ?_)
      obtain ⟨rfl, rfl⟩ := q
      refine px_PW.ret kt_183.2 rfl rfl ?_
      have E : s_mfitsB Z F sheet what = (-1000000000 - 1) := if_neg c0
      rw [E]
      exact ⟨rfl, _, _, px_sm.err, rfl⟩
  · have c0 : 0 ≤ what ∧ what ≤ 1 := px_b1n (of_decide_eq_false c0)
    refine px_PW.steps kt_183.2 2 rfl ?_
    refine px_PW.callV kt_183.2 rfl rfl rfl rfl (mm_lacksB hb) (by decide) (fun v h1 q => ?_)
    obtain ⟨rfl, rfl⟩ := q
    refine px_PW.steps kt_183.2 4 rfl ?_
    refine px_PW.br (fun c2 => ?_) (fun c2 => ?_)
    · have c2 : (1 : Int32) = 0 := of_decide_eq_true c2
      exact absurd c2 (by decide)
    · have c2 : ¬ ((1 : Int32) = 0) := of_decide_eq_false c2
      refine px_PW.steps kt_183.2 2 rfl ?_
      refine px_PW.callV kt_183.2 rfl rfl rfl rfl (mm_error 1 (by decide)) (by decide) (fun v h1 q => ?_)
      obtain ⟨rfl, rfl⟩ := q
      refine px_PW.ret kt_183.2 rfl rfl ?_
      have E : s_mfitsB Z F sheet what = (-1000000000 - 1) := if_pos c0
      rw [E]
      exact ⟨rfl, _, _, px_sm.err, rfl⟩
