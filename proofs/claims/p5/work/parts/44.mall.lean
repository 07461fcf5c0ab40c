def r_cuts (t : Int32) (B : Nat → Int32) (P : Nat) : Nat := zz_cnt (fun k => decide (¬ (t ≤ B k))) P 0 0
def r_halves (t : Int32) (B : Nat → Int32) (P : Nat) : Nat := zz_cnt (fun k => decide (¬ (t < 2 * B k + 3))) P 0 0
def r_nar (B : Nat → Int32) (P : Nat) : Int32 := zz_mn B (P - 1) 1 (B 0)
/-- a row of the wall: its length, its first piece, how many pieces -/
def r_row (f : Nat → Int32) (T J r e w P : Nat) : Prop := s_mlen f (nI r) = nI e ∧ s_mfst f (nI r) = nI w ∧ e ≤ 5000 ∧ w ≤ 200 ∧ P ≤ 100 ∧ 1 ≤ P ∧ (∀ j : Nat, j < P → r_beg w T J j < e) ∧ e ≤ r_beg w T J P
def r_ok (f : Nat → Int32) (T J R : Nat) (e w P : Nat → Nat) : Prop := f 1 = nI T ∧ f 2 = nI J ∧ f 4 = nI R ∧ T ≤ 200 ∧ J ≤ 9 ∧ R ≤ 8 ∧ ∀ r : Nat, r < R → r_row f T J r (e r) (w r) (P r)
theorem mm_layR {Z f A B : Nat → Int32} {F : Nat → Nat → Int32} {p : Int32} {T J r e w P : Nat} (hT : f 1 = nI T) (hJ : f 2 = nI J) (hT2 : T ≤ 200) (hJ9 : J ≤ 9) (h : r_row f T J r e w P) : px_PM 2 143 [.ref 1000, .int (nI r)] ([], px_MH (upd Z 5 p) (va_up (va_up (va_up F 0 f) 8 A) 9 B)) (fun r2 h' => r2 = none ∧ ∃ A' B' : Nat → Int32, (∀ j : Nat, j < P → A' j = r_A w T J j ∧ B' j = r_B e w T J j) ∧ h' = ([], px_MH (upd Z 5 (nI P)) (va_up (va_up (va_up F 0 f) 8 A') 9 B'))) := mm_lay h.1 h.2.1 hT hJ h.2.2.1 h.2.2.2.1 hT2 hJ9 h.2.2.2.2.1 h.2.2.2.2.2.2.1 h.2.2.2.2.2.2.2
theorem all0_loop {Z f : Nat → Int32} {F : Nat → Nat → Int32} {T J R : Nat} {e w P : Nat → Nat} (ok : r_ok f T J R e w P) {Q : Option Value → px_H → Prop} : ∀ (m r : Nat) (v : Int32) (A B : Nat → Int32) (p : Int32) (o4 : Option Value), r + m = R → (∀ (A B : Nat → Int32) (p : Int32) (o4 : Option Value), px_PW 2 pc_147 Q 102 [some (.ref 1000), some (.int 0), some (.int (c_fold (fun r => nI (r_cuts (f 1) (r_B (e r) (w r) T J) (P r))) (fun v o => v + o) m r v)), some (.int (nI R)), o4] [] ([], px_MH (upd Z 5 p) (va_up (va_up (va_up F 0 f) 8 A) 9 B))) → px_PW 2 pc_147 Q 15 [some (.ref 1000), some (.int 0), some (.int v), some (.int (nI r)), o4] [] ([], px_MH (upd Z 5 p) (va_up (va_up (va_up F 0 f) 8 A) 9 B))
  | m, r, v, A, B, p, o4, hr, H => by
    have hR8 := ok.2.2.2.2.2.1
    refine px_PW.steps kt_147.2 4 rfl ?_
    refine px_PW.steps kt_147.2 1 rfl ?_
    refine px_PW.steps kt_147.2 1 rfl ?_
    refine px_PW.br (fun c0 => ?_) (fun c0 => ?_)
    · have c0 : (f 4) ≤ (nI r) := of_decide_eq_true c0
      have c0 : R ≤ r := by rw [ok.2.2.1] at c0; exact (nI_leI (a := R) (b := r) (by omega) (by omega)).mp c0
      obtain rfl : m = 0 := by omega
      obtain rfl : r = R := by omega
      exact H _ _ _ _
    · have c0 : ¬ ((f 4) ≤ (nI r)) := of_decide_eq_false c0
      have c0 : ¬ (R ≤ r) := fun q => c0 (by rw [ok.2.2.1]; exact (nI_leI (a := R) (b := r) (by omega) (by omega)).mpr q)
      obtain ⟨m2, rfl⟩ : ∃ m2, m = m2 + 1 := ⟨m - 1, by omega⟩
      refine px_PW.steps kt_147.2 2 rfl ?_
      refine px_PW.callV kt_147.2 rfl rfl rfl rfl (mm_layR (f := f) ok.1 ok.2.1 ok.2.2.2.1 ok.2.2.2.2.1 (ok.2.2.2.2.2.2 r (by omega))) (by decide) (fun v h1 q => ?_)
      obtain ⟨rfl, A9, B9, hAB9, rfl⟩ := q
      refine px_PW.steps kt_147.2 2 rfl ?_
      refine px_PW.br (fun c1 => ?_) (fun c1 => ?_)
      · have c1 : ¬ ((0 : Int32) = 0) := of_decide_eq_false (px_nt c1)
        exact absurd (by decide) c1
      · have c1 : (0 : Int32) = 0 := of_decide_eq_true (px_nf c1)
        refine px_PW.steps kt_147.2 1 rfl ?_
        refine px_PW.callV kt_147.2 rfl rfl rfl rfl (mm_cuts (f := f) (ok.2.2.2.2.2.2 r (by omega)).2.2.2.2.1 hAB9) (by decide) (fun v h1 q => ?_)
        obtain ⟨rfl, rfl⟩ := q
        refine px_PW.steps kt_147.2 5 rfl ?_
        refine px_PW.br (fun c2 => ?_) (fun c2 => ?_)
        · have c2 : ¬ ((0 : Int32) = 1) := of_decide_eq_false (px_nt c2)
          refine px_PW.steps kt_147.2 6 rfl ?_
          have e0 : c_fold (fun r => nI (r_cuts (f 1) (r_B (e r) (w r) T J) (P r))) (fun v o => v + o) (m2 + 1) r v = c_fold (fun r => nI (r_cuts (f 1) (r_B (e r) (w r) T J) (P r))) (fun v o => v + o) m2 (r + 1) (v + (nI (r_cuts (f 1) (r_B (e r) (w r) T J) (P r)))) := rfl
          have g := all0_loop ok (Z := Z) (F := F) (Q := Q) m2 (r + 1) (v + (nI (r_cuts (f 1) (r_B (e r) (w r) T J) (P r)))) A9 B9 (nI (P r)) (some (.int (nI (r_cuts (f 1) (r_B (e r) (w r) T J) (P r))))) (by omega) (fun A B p o4 => by have h := H A B p o4; rw [e0] at h; exact h)
          rw [nI_succ r] at g
          exact g
        · have c2 : (0 : Int32) = 1 := of_decide_eq_true (px_nf c2)
          exact absurd c2 (by decide)
theorem mm_all0 {Z f A B : Nat → Int32} {F : Nat → Nat → Int32} {p : Int32} {T J R : Nat} {e w P : Nat → Nat} (ok : r_ok f T J R e w P) : px_PM 3 147 [.ref 1000, .int 0] ([], px_MH (upd Z 5 p) (va_up (va_up (va_up F 0 f) 8 A) 9 B)) (fun r h' => r = some (.int (c_fold (fun r => nI (r_cuts (f 1) (r_B (e r) (w r) T J) (P r))) (fun v o => v + o) R 0 0)) ∧ ∃ (A' B' : Nat → Int32) (p' : Int32), h' = ([], px_MH (upd Z 5 p') (va_up (va_up (va_up F 0 f) 8 A') 9 B'))) := by
  refine px_PM.start (nL := 5) (code := pc_147) rfl rfl ?_
  refine px_PW.steps kt_147.2 3 rfl ?_
  refine px_PW.br (fun c0 => ?_) (fun c0 => ?_)
  · have c0 : ¬ ((0 : Int32) = 1) := of_decide_eq_false (px_nt c0)
    refine px_PW.steps kt_147.2 4 rfl ?_
    refine all0_loop ok R 0 0 A B p none (by omega) (fun A B p o4 => ?_)
    refine px_PW.steps kt_147.2 1 rfl ?_
    exact px_PW.ret kt_147.2 rfl rfl ⟨rfl, A, B, p, rfl⟩
  · have c0 : (0 : Int32) = 1 := of_decide_eq_true (px_nf c0)
    exact absurd c0 (by decide)
theorem all1_loop {Z f : Nat → Int32} {F : Nat → Nat → Int32} {T J R : Nat} {e w P : Nat → Nat} (ok : r_ok f T J R e w P) {Q : Option Value → px_H → Prop} : ∀ (m r : Nat) (v : Int32) (A B : Nat → Int32) (p : Int32) (o4 : Option Value), r + m = R → (∀ (A B : Nat → Int32) (p : Int32) (o4 : Option Value), px_PW 2 pc_147 Q 102 [some (.ref 1000), some (.int 1), some (.int (c_fold (fun r => r_nar (r_B (e r) (w r) T J) (P r)) (fun v o => if v ≤ o then v else o) m r v)), some (.int (nI R)), o4] [] ([], px_MH (upd Z 5 p) (va_up (va_up (va_up F 0 f) 8 A) 9 B))) → px_PW 2 pc_147 Q 15 [some (.ref 1000), some (.int 1), some (.int v), some (.int (nI r)), o4] [] ([], px_MH (upd Z 5 p) (va_up (va_up (va_up F 0 f) 8 A) 9 B))
  | m, r, v, A, B, p, o4, hr, H => by
    have hR8 := ok.2.2.2.2.2.1
    refine px_PW.steps kt_147.2 4 rfl ?_
    refine px_PW.steps kt_147.2 1 rfl ?_
    refine px_PW.steps kt_147.2 1 rfl ?_
    refine px_PW.br (fun c0 => ?_) (fun c0 => ?_)
    · have c0 : (f 4) ≤ (nI r) := of_decide_eq_true c0
      have c0 : R ≤ r := by rw [ok.2.2.1] at c0; exact (nI_leI (a := R) (b := r) (by omega) (by omega)).mp c0
      obtain rfl : m = 0 := by omega
      obtain rfl : r = R := by omega
      exact H _ _ _ _
    · have c0 : ¬ ((f 4) ≤ (nI r)) := of_decide_eq_false c0
      have c0 : ¬ (R ≤ r) := fun q => c0 (by rw [ok.2.2.1]; exact (nI_leI (a := R) (b := r) (by omega) (by omega)).mpr q)
      obtain ⟨m2, rfl⟩ : ∃ m2, m = m2 + 1 := ⟨m - 1, by omega⟩
      refine px_PW.steps kt_147.2 2 rfl ?_
      refine px_PW.callV kt_147.2 rfl rfl rfl rfl (mm_layR (f := f) ok.1 ok.2.1 ok.2.2.2.1 ok.2.2.2.2.1 (ok.2.2.2.2.2.2 r (by omega))) (by decide) (fun v h1 q => ?_)
      obtain ⟨rfl, A9, B9, hAB9, rfl⟩ := q
      refine px_PW.steps kt_147.2 2 rfl ?_
      refine px_PW.br (fun c1 => ?_) (fun c1 => ?_)
      · have c1 : ¬ ((1 : Int32) = 0) := of_decide_eq_false (px_nt c1)
        refine px_PW.steps kt_147.2 3 rfl ?_
        refine px_PW.br (fun c2 => ?_) (fun c2 => ?_)
        · have c2 : ¬ ((1 : Int32) = 1) := of_decide_eq_false (px_nt c2)
          exact absurd (by decide) c2
        · have c2 : (1 : Int32) = 1 := of_decide_eq_true (px_nf c2)
          refine px_PW.steps kt_147.2 1 rfl ?_
          refine px_PW.callV kt_147.2 rfl rfl rfl rfl (mm_nar (f := f) (ok.2.2.2.2.2.2 r (by omega)).2.2.2.2.1 hAB9 (ok.2.2.2.2.2.2 r (by omega)).2.2.2.2.2.1) (by decide) (fun v h1 q => ?_)
          obtain ⟨rfl, rfl⟩ := q
          refine px_PW.steps kt_147.2 5 rfl ?_
          refine px_PW.br (fun c3 => ?_) (fun c3 => ?_)
          · have c3 : ¬ ((1 : Int32) = 1) := of_decide_eq_false (px_nt c3)
            exact absurd (by decide) c3
          · have c3 : (1 : Int32) = 1 := of_decide_eq_true (px_nf c3)
            refine px_PW.steps kt_147.2 3 rfl ?_
            refine px_PW.br (fun c4 => ?_) (fun c4 => ?_)
            · have c4 : v ≤ (r_nar (r_B (e r) (w r) T J) (P r)) := of_decide_eq_true c4
              refine px_PW.steps kt_147.2 5 rfl ?_
              have e0 : c_fold (fun r => r_nar (r_B (e r) (w r) T J) (P r)) (fun v o => if v ≤ o then v else o) (m2 + 1) r v = c_fold (fun r => r_nar (r_B (e r) (w r) T J) (P r)) (fun v o => if v ≤ o then v else o) m2 (r + 1) v := congrArg (c_fold (fun r => r_nar (r_B (e r) (w r) T J) (P r)) (fun v o => if v ≤ o then v else o) m2 (r + 1)) (if_pos c4)
              have g := all1_loop ok (Z := Z) (F := F) (Q := Q) m2 (r + 1) v A9 B9 (nI (P r)) (some (.int (r_nar (r_B (e r) (w r) T J) (P r)))) (by omega) (fun A B p o4 => by have h := H A B p o4; rw [e0] at h; exact h)
              rw [nI_succ r] at g
              exact g
            · have c4 : ¬ (v ≤ (r_nar (r_B (e r) (w r) T J) (P r))) := of_decide_eq_false c4
              refine px_PW.steps kt_147.2 5 rfl ?_
              have e0 : c_fold (fun r => r_nar (r_B (e r) (w r) T J) (P r)) (fun v o => if v ≤ o then v else o) (m2 + 1) r v = c_fold (fun r => r_nar (r_B (e r) (w r) T J) (P r)) (fun v o => if v ≤ o then v else o) m2 (r + 1) (r_nar (r_B (e r) (w r) T J) (P r)) := congrArg (c_fold (fun r => r_nar (r_B (e r) (w r) T J) (P r)) (fun v o => if v ≤ o then v else o) m2 (r + 1)) (if_neg c4)
              have g := all1_loop ok (Z := Z) (F := F) (Q := Q) m2 (r + 1) (r_nar (r_B (e r) (w r) T J) (P r)) A9 B9 (nI (P r)) (some (.int (r_nar (r_B (e r) (w r) T J) (P r)))) (by omega) (fun A B p o4 => by have h := H A B p o4; rw [e0] at h; exact h)
              rw [nI_succ r] at g
              exact g
      · have c1 : (1 : Int32) = 0 := of_decide_eq_true (px_nf c1)
        exact absurd c1 (by decide)
theorem mm_all1 {Z f A B : Nat → Int32} {F : Nat → Nat → Int32} {p : Int32} {T J R : Nat} {e w P : Nat → Nat} (ok : r_ok f T J R e w P) : px_PM 3 147 [.ref 1000, .int 1] ([], px_MH (upd Z 5 p) (va_up (va_up (va_up F 0 f) 8 A) 9 B)) (fun r h' => r = some (.int (c_fold (fun r => r_nar (r_B (e r) (w r) T J) (P r)) (fun v o => if v ≤ o then v else o) R 0 9999)) ∧ ∃ (A' B' : Nat → Int32) (p' : Int32), h' = ([], px_MH (upd Z 5 p') (va_up (va_up (va_up F 0 f) 8 A') 9 B'))) := by
  refine px_PM.start (nL := 5) (code := pc_147) rfl rfl ?_
  refine px_PW.steps kt_147.2 3 rfl ?_
  refine px_PW.br (fun c0 => ?_) (fun c0 => ?_)
  · have c0 : ¬ ((1 : Int32) = 1) := of_decide_eq_false (px_nt c0)
    exact absurd (by decide) c0
  · have c0 : (1 : Int32) = 1 := of_decide_eq_true (px_nf c0)
    refine px_PW.steps kt_147.2 5 rfl ?_
    refine all1_loop ok R 0 9999 A B p none (by omega) (fun A B p o4 => ?_)
    refine px_PW.steps kt_147.2 1 rfl ?_
    exact px_PW.ret kt_147.2 rfl rfl ⟨rfl, A, B, p, rfl⟩
theorem all2_loop {Z f : Nat → Int32} {F : Nat → Nat → Int32} {T J R : Nat} {e w P : Nat → Nat} (ok : r_ok f T J R e w P) {Q : Option Value → px_H → Prop} : ∀ (m r : Nat) (v : Int32) (A B : Nat → Int32) (p : Int32) (o4 : Option Value), r + m = R → (∀ (A B : Nat → Int32) (p : Int32) (o4 : Option Value), px_PW 2 pc_147 Q 102 [some (.ref 1000), some (.int 2), some (.int (c_fold (fun r => nI (r_halves (f 1) (r_B (e r) (w r) T J) (P r))) (fun v o => v + o) m r v)), some (.int (nI R)), o4] [] ([], px_MH (upd Z 5 p) (va_up (va_up (va_up F 0 f) 8 A) 9 B))) → px_PW 2 pc_147 Q 15 [some (.ref 1000), some (.int 2), some (.int v), some (.int (nI r)), o4] [] ([], px_MH (upd Z 5 p) (va_up (va_up (va_up F 0 f) 8 A) 9 B))
  | m, r, v, A, B, p, o4, hr, H => by
    have hR8 := ok.2.2.2.2.2.1
    refine px_PW.steps kt_147.2 4 rfl ?_
    refine px_PW.steps kt_147.2 1 rfl ?_
    refine px_PW.steps kt_147.2 1 rfl ?_
    refine px_PW.br (fun c0 => ?_) (fun c0 => ?_)
    · have c0 : (f 4) ≤ (nI r) := of_decide_eq_true c0
      have c0 : R ≤ r := by rw [ok.2.2.1] at c0; exact (nI_leI (a := R) (b := r) (by omega) (by omega)).mp c0
      obtain rfl : m = 0 := by omega
      obtain rfl : r = R := by omega
      exact H _ _ _ _
    · have c0 : ¬ ((f 4) ≤ (nI r)) := of_decide_eq_false c0
      have c0 : ¬ (R ≤ r) := fun q => c0 (by rw [ok.2.2.1]; exact (nI_leI (a := R) (b := r) (by omega) (by omega)).mpr q)
      obtain ⟨m2, rfl⟩ : ∃ m2, m = m2 + 1 := ⟨m - 1, by omega⟩
      refine px_PW.steps kt_147.2 2 rfl ?_
      refine px_PW.callV kt_147.2 rfl rfl rfl rfl (mm_layR (f := f) ok.1 ok.2.1 ok.2.2.2.1 ok.2.2.2.2.1 (ok.2.2.2.2.2.2 r (by omega))) (by decide) (fun v h1 q => ?_)
      obtain ⟨rfl, A9, B9, hAB9, rfl⟩ := q
      refine px_PW.steps kt_147.2 2 rfl ?_
      refine px_PW.br (fun c1 => ?_) (fun c1 => ?_)
      · have c1 : ¬ ((2 : Int32) = 0) := of_decide_eq_false (px_nt c1)
        refine px_PW.steps kt_147.2 3 rfl ?_
        refine px_PW.br (fun c2 => ?_) (fun c2 => ?_)
        · have c2 : ¬ ((2 : Int32) = 1) := of_decide_eq_false (px_nt c2)
          refine px_PW.steps kt_147.2 3 rfl ?_
          refine px_PW.br (fun c3 => ?_) (fun c3 => ?_)
          · have c3 : ¬ ((2 : Int32) = 2) := of_decide_eq_false (px_nt c3)
            exact absurd (by decide) c3
          · have c3 : (2 : Int32) = 2 := of_decide_eq_true (px_nf c3)
            refine px_PW.steps kt_147.2 1 rfl ?_
            refine px_PW.callV kt_147.2 rfl rfl rfl rfl (mm_halves (f := f) (ok.2.2.2.2.2.2 r (by omega)).2.2.2.2.1 hAB9) (by decide) (fun v h1 q => ?_)
            obtain ⟨rfl, rfl⟩ := q
            refine px_PW.steps kt_147.2 5 rfl ?_
            refine px_PW.br (fun c4 => ?_) (fun c4 => ?_)
            · have c4 : ¬ ((2 : Int32) = 1) := of_decide_eq_false (px_nt c4)
              refine px_PW.steps kt_147.2 6 rfl ?_
              have e0 : c_fold (fun r => nI (r_halves (f 1) (r_B (e r) (w r) T J) (P r))) (fun v o => v + o) (m2 + 1) r v = c_fold (fun r => nI (r_halves (f 1) (r_B (e r) (w r) T J) (P r))) (fun v o => v + o) m2 (r + 1) (v + (nI (r_halves (f 1) (r_B (e r) (w r) T J) (P r)))) := rfl
              have g := all2_loop ok (Z := Z) (F := F) (Q := Q) m2 (r + 1) (v + (nI (r_halves (f 1) (r_B (e r) (w r) T J) (P r)))) A9 B9 (nI (P r)) (some (.int (nI (r_halves (f 1) (r_B (e r) (w r) T J) (P r))))) (by omega) (fun A B p o4 => by have h := H A B p o4; rw [e0] at h; exact h)
              rw [nI_succ r] at g
              exact g
            · have c4 : (2 : Int32) = 1 := of_decide_eq_true (px_nf c4)
              exact absurd c4 (by decide)
        · have c2 : (2 : Int32) = 1 := of_decide_eq_true (px_nf c2)
          exact absurd c2 (by decide)
      · have c1 : (2 : Int32) = 0 := of_decide_eq_true (px_nf c1)
        exact absurd c1 (by decide)
theorem mm_all2 {Z f A B : Nat → Int32} {F : Nat → Nat → Int32} {p : Int32} {T J R : Nat} {e w P : Nat → Nat} (ok : r_ok f T J R e w P) : px_PM 3 147 [.ref 1000, .int 2] ([], px_MH (upd Z 5 p) (va_up (va_up (va_up F 0 f) 8 A) 9 B)) (fun r h' => r = some (.int (c_fold (fun r => nI (r_halves (f 1) (r_B (e r) (w r) T J) (P r))) (fun v o => v + o) R 0 0)) ∧ ∃ (A' B' : Nat → Int32) (p' : Int32), h' = ([], px_MH (upd Z 5 p') (va_up (va_up (va_up F 0 f) 8 A') 9 B'))) := by
  refine px_PM.start (nL := 5) (code := pc_147) rfl rfl ?_
  refine px_PW.steps kt_147.2 3 rfl ?_
  refine px_PW.br (fun c0 => ?_) (fun c0 => ?_)
  · have c0 : ¬ ((2 : Int32) = 1) := of_decide_eq_false (px_nt c0)
    refine px_PW.steps kt_147.2 4 rfl ?_
    refine all2_loop ok R 0 0 A B p none (by omega) (fun A B p o4 => ?_)
    refine px_PW.steps kt_147.2 1 rfl ?_
    exact px_PW.ret kt_147.2 rfl rfl ⟨rfl, A, B, p, rfl⟩
  · have c0 : (2 : Int32) = 1 := of_decide_eq_true (px_nf c0)
    exact absurd c0 (by decide)
theorem all3_loop {Z f : Nat → Int32} {F : Nat → Nat → Int32} {T J R : Nat} {e w P : Nat → Nat} (ok : r_ok f T J R e w P) {Q : Option Value → px_H → Prop} : ∀ (m r : Nat) (v : Int32) (A B : Nat → Int32) (p : Int32) (o4 : Option Value), r + m = R → (∀ (A B : Nat → Int32) (p : Int32) (o4 : Option Value), px_PW 2 pc_147 Q 102 [some (.ref 1000), some (.int 3), some (.int (c_fold (fun r => nI (P r)) (fun v o => v + o) m r v)), some (.int (nI R)), o4] [] ([], px_MH (upd Z 5 p) (va_up (va_up (va_up F 0 f) 8 A) 9 B))) → px_PW 2 pc_147 Q 15 [some (.ref 1000), some (.int 3), some (.int v), some (.int (nI r)), o4] [] ([], px_MH (upd Z 5 p) (va_up (va_up (va_up F 0 f) 8 A) 9 B))
  | m, r, v, A, B, p, o4, hr, H => by
    have hR8 := ok.2.2.2.2.2.1
    refine px_PW.steps kt_147.2 4 rfl ?_
    refine px_PW.steps kt_147.2 1 rfl ?_
    refine px_PW.steps kt_147.2 1 rfl ?_
    refine px_PW.br (fun c0 => ?_) (fun c0 => ?_)
    · have c0 : (f 4) ≤ (nI r) := of_decide_eq_true c0
      have c0 : R ≤ r := by rw [ok.2.2.1] at c0; exact (nI_leI (a := R) (b := r) (by omega) (by omega)).mp c0
      obtain rfl : m = 0 := by omega
      obtain rfl : r = R := by omega
      exact H _ _ _ _
    · have c0 : ¬ ((f 4) ≤ (nI r)) := of_decide_eq_false c0
      have c0 : ¬ (R ≤ r) := fun q => c0 (by rw [ok.2.2.1]; exact (nI_leI (a := R) (b := r) (by omega) (by omega)).mpr q)
      obtain ⟨m2, rfl⟩ : ∃ m2, m = m2 + 1 := ⟨m - 1, by omega⟩
      refine px_PW.steps kt_147.2 2 rfl ?_
      refine px_PW.callV kt_147.2 rfl rfl rfl rfl (mm_layR (f := f) ok.1 ok.2.1 ok.2.2.2.1 ok.2.2.2.2.1 (ok.2.2.2.2.2.2 r (by omega))) (by decide) (fun v h1 q => ?_)
      obtain ⟨rfl, A9, B9, hAB9, rfl⟩ := q
      refine px_PW.steps kt_147.2 2 rfl ?_
      refine px_PW.br (fun c1 => ?_) (fun c1 => ?_)
      · have c1 : ¬ ((3 : Int32) = 0) := of_decide_eq_false (px_nt c1)
        refine px_PW.steps kt_147.2 3 rfl ?_
        refine px_PW.br (fun c2 => ?_) (fun c2 => ?_)
        · have c2 : ¬ ((3 : Int32) = 1) := of_decide_eq_false (px_nt c2)
          refine px_PW.steps kt_147.2 3 rfl ?_
          refine px_PW.br (fun c3 => ?_) (fun c3 => ?_)
          · have c3 : ¬ ((3 : Int32) = 2) := of_decide_eq_false (px_nt c3)
            refine px_PW.steps kt_147.2 6 rfl ?_
            refine px_PW.br (fun c4 => ?_) (fun c4 => ?_)
            · have c4 : ¬ ((3 : Int32) = 1) := of_decide_eq_false (px_nt c4)
              refine px_PW.steps kt_147.2 6 rfl ?_
              have e0 : c_fold (fun r => nI (P r)) (fun v o => v + o) (m2 + 1) r v = c_fold (fun r => nI (P r)) (fun v o => v + o) m2 (r + 1) (v + (nI (P r))) := rfl
              have g := all3_loop ok (Z := Z) (F := F) (Q := Q) m2 (r + 1) (v + (nI (P r))) A9 B9 (nI (P r)) (some (.int (nI (P r)))) (by omega) (fun A B p o4 => by have h := H A B p o4; rw [e0] at h; exact h)
              rw [nI_succ r] at g
              exact g
            · have c4 : (3 : Int32) = 1 := of_decide_eq_true (px_nf c4)
              exact absurd c4 (by decide)
          · have c3 : (3 : Int32) = 2 := of_decide_eq_true (px_nf c3)
            exact absurd c3 (by decide)
        · have c2 : (3 : Int32) = 1 := of_decide_eq_true (px_nf c2)
          exact absurd c2 (by decide)
      · have c1 : (3 : Int32) = 0 := of_decide_eq_true (px_nf c1)
        exact absurd c1 (by decide)
theorem mm_all3 {Z f A B : Nat → Int32} {F : Nat → Nat → Int32} {p : Int32} {T J R : Nat} {e w P : Nat → Nat} (ok : r_ok f T J R e w P) : px_PM 3 147 [.ref 1000, .int 3] ([], px_MH (upd Z 5 p) (va_up (va_up (va_up F 0 f) 8 A) 9 B)) (fun r h' => r = some (.int (c_fold (fun r => nI (P r)) (fun v o => v + o) R 0 0)) ∧ ∃ (A' B' : Nat → Int32) (p' : Int32), h' = ([], px_MH (upd Z 5 p') (va_up (va_up (va_up F 0 f) 8 A') 9 B'))) := by
  refine px_PM.start (nL := 5) (code := pc_147) rfl rfl ?_
  refine px_PW.steps kt_147.2 3 rfl ?_
  refine px_PW.br (fun c0 => ?_) (fun c0 => ?_)
  · have c0 : ¬ ((3 : Int32) = 1) := of_decide_eq_false (px_nt c0)
    refine px_PW.steps kt_147.2 4 rfl ?_
    refine all3_loop ok R 0 0 A B p none (by omega) (fun A B p o4 => ?_)
    refine px_PW.steps kt_147.2 1 rfl ?_
    exact px_PW.ret kt_147.2 rfl rfl ⟨rfl, A, B, p, rfl⟩
  · have c0 : (3 : Int32) = 1 := of_decide_eq_true (px_nf c0)
    exact absurd c0 (by decide)
theorem zz_can (Z : Nat → Int32) (F : Nat → Nat → Int32) : px_MH Z F = px_MH (upd Z 5 (Z 5)) (va_up (va_up (va_up F 0 (F 0)) 8 (F 8)) 9 (F 9)) := by rw [zz_ui, px_up_id, px_up_id, px_up_id]
theorem zz_sm {Z : Nat → Int32} {F : Nat → Nat → Int32} {A B : Nat → Int32} {p : Int32} : px_sm Z F (upd Z 5 p) (va_up (va_up (va_up F 0 (F 0)) 8 A) 9 B) := ⟨rfl, fun h => h, rfl, rfl, rfl, rfl, rfl, rfl, rfl⟩
theorem px_rowN {f : Nat → Int32} {R : Nat} (hR : f 4 = nI R) (hR8 : R ≤ 8) {row : Int32} (c : 0 ≤ row ∧ row ≤ f 4 - 1) : row = nI row.toNatClampNeg ∧ row.toNatClampNeg < R := px_inS hR (by omega) c
theorem mm_layE {Z f A B : Nat → Int32} {F : Nat → Nat → Int32} {p : Int32} {T J r e w P : Nat} {row : Int32} (hr : row = nI r) (hT : f 1 = nI T) (hJ : f 2 = nI J) (hT2 : T ≤ 200) (hJ9 : J ≤ 9) (h : r_row f T J r e w P) : px_PM 2 143 [.ref 1000, .int row] ([], px_MH (upd Z 5 p) (va_up (va_up (va_up F 0 f) 8 A) 9 B)) (fun r2 h' => r2 = none ∧ ∃ A' B' : Nat → Int32, (∀ j : Nat, j < P → A' j = r_A w T J j ∧ B' j = r_B e w T J j) ∧ h' = ([], px_MH (upd Z 5 (nI P)) (va_up (va_up (va_up F 0 f) 8 A') 9 B'))) := by
  subst hr
  exact mm_layR hT hJ hT2 hJ9 h
theorem px_pci {i : Int32} {P : Nat} (hP : P ≤ 100) (a : -1 ≤ i) (b : ¬ (i = -1)) (c : ¬ (nI P ≤ i)) : i = nI i.toNatClampNeg ∧ i.toNatClampNeg < P := by
  have h0 : ¬ i < 0 := fun q => by
    rw [Int32.lt_iff_toInt_lt, Int32.toInt_zero] at q
    rw [Int32.le_iff_toInt_le] at a
    have h1 : (-1 : Int32).toInt = -1 := by decide
    rw [h1] at a
    exact b (px_i_of (k := -1) (by omega) h1)
  obtain ⟨k, hk, rfl⟩ := nI_of h0
  rw [nI_clamp hk]
  refine ⟨rfl, ?_⟩
  rcases Nat.lt_or_ge k P with q | q
  · exact q
  · exact absurd (nI_le q hk) c
def s_mpiece (T J : Nat) (e w P : Nat → Nat) (F : Nat → Nat → Int32) (row i : Int32) : Int32 := (if 0 ≤ row ∧ row ≤ F 0 4 - 1 then (if (-1) ≤ i then (if i = (-1) then (nI (P row.toNatClampNeg)) else (if (nI (P row.toNatClampNeg)) ≤ i then (-1000000000 - 2) else (r_B (e row.toNatClampNeg) (w row.toNatClampNeg) T J i.toNatClampNeg))) else (-1000000000 - 1)) else (-1000000000 - 1))
theorem kc_mpiece {Z : Nat → Int32} {F : Nat → Nat → Int32} {T J R : Nat} {e w P : Nat → Nat} (ok : r_ok (F 0) T J R e w P) (row i : Int32) : px_PM 3 168 [.ref 1000, .int row, .int i] ([], px_MH Z F) (fun r h' => r = some (.int (s_mpiece T J e w P F row i)) ∧ ∃ Z' F', px_sm Z F Z' F' ∧ h' = ([], px_MH Z' F')) := by
  refine px_PM.start (nL := 3) (code := pc_168) rfl rfl ?_
  refine px_PW.steps kt_168.2 2 rfl ?_
  refine px_PW.callV kt_168.2 rfl rfl rfl rfl (mm_isRow _) (by decide) (fun v h1 q => ?_)
  obtain ⟨rfl, rfl⟩ := q
  refine px_PW.steps kt_168.2 1 rfl ?_
  refine px_PW.br (fun c0 => ?_) (fun c0 => ?_)
  · have c0 : ¬ (0 ≤ row ∧ row ≤ F 0 4 - 1) := px_b1z (of_decide_eq_true c0)
    refine px_PW.steps kt_168.2 2 rfl ?_
    refine px_PW.callV kt_168.2 rfl rfl rfl rfl (mm_error 1 (by decide)) (by decide) (fun v h1 q => ?_)
    obtain ⟨rfl, rfl⟩ := q
    refine px_PW.ret kt_168.2 rfl rfl ?_
    have E : s_mpiece T J e w P F row i = (-1000000000 - 1) := if_neg c0
    rw [E]
    exact ⟨rfl, _, _, px_sm.err, rfl⟩
  · have c0 : 0 ≤ row ∧ row ≤ F 0 4 - 1 := px_b1n (of_decide_eq_false c0)
    refine px_PW.steps kt_168.2 3 rfl ?_
    refine px_PW.br (fun c1 => ?_) (fun c1 => ?_)
    · have c1 : (-1) ≤ i := of_decide_eq_true c1
      refine px_PW.steps kt_168.2 2 rfl ?_
      refine px_PW.hp (h' := ([], px_MH (upd Z 5 (Z 5)) (va_up (va_up (va_up F 0 (F 0)) 8 (F 8)) 9 (F 9)))) (by rw [← zz_can]) ?_
      refine px_PW.callV kt_168.2 rfl rfl rfl rfl (mm_layE (px_rowN ok.2.2.1 ok.2.2.2.2.2.1 c0).1 ok.1 ok.2.1 ok.2.2.2.1 ok.2.2.2.2.1 (ok.2.2.2.2.2.2 _ (px_rowN ok.2.2.1 ok.2.2.2.2.2.1 c0).2)) (by decide) (fun v h1 q => ?_)
      obtain ⟨rfl, A9, B9, hAB9, rfl⟩ := q
      have hrow := ok.2.2.2.2.2.2 _ (px_rowN ok.2.2.1 ok.2.2.2.2.2.1 c0).2
      refine px_PW.steps kt_168.2 3 rfl ?_
      refine px_PW.br (fun c2 => ?_) (fun c2 => ?_)
      · have c2 : ¬ (i = (-1)) := of_decide_eq_false (px_nt c2)
        refine px_PW.steps kt_168.2 4 rfl ?_
        refine px_PW.br (fun c3 => ?_) (fun c3 => ?_)
        · have c3 : (nI (P row.toNatClampNeg)) ≤ i := of_decide_eq_true c3
          refine px_PW.steps kt_168.2 2 rfl ?_
          refine px_PW.callV kt_168.2 rfl rfl rfl rfl (mm_error 2 (by decide)) (by decide) (fun v h1 q => ?_)
          obtain ⟨rfl, rfl⟩ := q
          refine px_PW.ret kt_168.2 rfl rfl ?_
          have E : s_mpiece T J e w P F row i = (-1000000000 - 2) := (if_pos c0).trans ((if_pos c1).trans ((if_neg c2).trans (if_pos c3)))
          rw [E]
          exact ⟨rfl, _, _, (zz_sm.tr px_sm.err), rfl⟩
        · have c3 : ¬ ((nI (P row.toNatClampNeg)) ≤ i) := of_decide_eq_false c3
          refine px_PW.steps kt_168.2 3 rfl ?_
          have hi := px_pci (i := i) (P := (P row.toNatClampNeg)) hrow.2.2.2.2.1 c1 c2 c3
          refine px_PW.aldN kt_168.2 rfl rfl (n := i.toNatClampNeg) hi.1 (by have := hrow.2.2.2.2.1; have := hi.2; omega) ?_
          rw [show (va_up (va_up (va_up F 0 (F 0)) 8 A9) 9 B9) 9 i.toNatClampNeg = r_B (e row.toNatClampNeg) (w row.toNatClampNeg) T J i.toNatClampNeg from (hAB9 _ hi.2).2]
          refine px_PW.steps kt_168.2 1 rfl ?_
          refine px_PW.ret kt_168.2 rfl rfl ?_
          have E : s_mpiece T J e w P F row i = (r_B (e row.toNatClampNeg) (w row.toNatClampNeg) T J i.toNatClampNeg) := (if_pos c0).trans ((if_pos c1).trans ((if_neg c2).trans (if_neg c3)))
          rw [E]
          exact ⟨rfl, _, _, zz_sm, rfl⟩
      · have c2 : i = (-1) := of_decide_eq_true (px_nf c2)
        refine px_PW.steps kt_168.2 3 rfl ?_
        refine px_PW.ret kt_168.2 rfl rfl ?_
        have E : s_mpiece T J e w P F row i = (nI (P row.toNatClampNeg)) := (if_pos c0).trans ((if_pos c1).trans (if_pos c2))
        rw [E]
        exact ⟨rfl, _, _, zz_sm, rfl⟩
    · have c1 : ¬ ((-1) ≤ i) := of_decide_eq_false c1
      refine px_PW.steps kt_168.2 2 rfl ?_
      refine px_PW.callV kt_168.2 rfl rfl rfl rfl (mm_error 1 (by decide)) (by decide) (fun v h1 q => ?_)
      obtain ⟨rfl, rfl⟩ := q
      refine px_PW.ret kt_168.2 rfl rfl ?_
      have E : s_mpiece T J e w P F row i = (-1000000000 - 1) := (if_pos c0).trans (if_neg c1)
      rw [E]
      exact ⟨rfl, _, _, px_sm.err, rfl⟩
def s_mrowIs (T J : Nat) (e w P : Nat → Nat) (F : Nat → Nat → Int32) (row what : Int32) : Int32 := (if 0 ≤ row ∧ row ≤ F 0 4 - 1 then (if 0 ≤ what ∧ what ≤ 3 then (if what = 0 then (s_mlen (F 0) row) else (if what = 1 then (nI (r_cuts ((F 0) 1) (r_B (e row.toNatClampNeg) (w row.toNatClampNeg) T J) (P row.toNatClampNeg))) else (if what = 2 then (r_nar (r_B (e row.toNatClampNeg) (w row.toNatClampNeg) T J) (P row.toNatClampNeg)) else (s_mfst (F 0) row)))) else (-1000000000 - 1)) else (-1000000000 - 1))
theorem kc_mrowIs {Z : Nat → Int32} {F : Nat → Nat → Int32} {T J R : Nat} {e w P : Nat → Nat} (ok : r_ok (F 0) T J R e w P) (row what : Int32) : px_PM 3 169 [.ref 1000, .int row, .int what] ([], px_MH Z F) (fun r h' => r = some (.int (s_mrowIs T J e w P F row what)) ∧ ∃ Z' F', px_sm Z F Z' F' ∧ h' = ([], px_MH Z' F')) := by
  refine px_PM.start (nL := 3) (code := pc_169) rfl rfl ?_
  refine px_PW.steps kt_169.2 2 rfl ?_
  refine px_PW.callV kt_169.2 rfl rfl rfl rfl (mm_isRow _) (by decide) (fun v h1 q => ?_)
  obtain ⟨rfl, rfl⟩ := q
  refine px_PW.steps kt_169.2 1 rfl ?_
  refine px_PW.br (fun c0 => ?_) (fun c0 => ?_)
  · have c0 : ¬ (0 ≤ row ∧ row ≤ F 0 4 - 1) := px_b1z (of_decide_eq_true c0)
    refine px_PW.steps kt_169.2 2 rfl ?_
    refine px_PW.callV kt_169.2 rfl rfl rfl rfl (mm_error 1 (by decide)) (by decide) (fun v h1 q => ?_)
    obtain ⟨rfl, rfl⟩ := q
    refine px_PW.ret kt_169.2 rfl rfl ?_
    have E : s_mrowIs T J e w P F row what = (-1000000000 - 1) := if_neg c0
    rw [E]
    exact ⟨rfl, _, _, px_sm.err, rfl⟩
  · have c0 : 0 ≤ row ∧ row ≤ F 0 4 - 1 := px_b1n (of_decide_eq_false c0)
    refine px_PW.steps kt_169.2 3 rfl ?_
    refine px_PW.callS kt_169.2 rfl rfl rfl (cm_117 _ _ _ _) (by decide) (fun v h1 q => ?_)
    obtain ⟨rfl, rfl⟩ := q
    refine px_PW.steps kt_169.2 1 rfl ?_
    refine px_PW.br (fun c1 => ?_) (fun c1 => ?_)
    · have c1 : 0 ≤ what ∧ what ≤ 3 := px_b1n (of_decide_eq_false (px_nt c1))
      refine px_PW.steps kt_169.2 2 rfl ?_
      refine px_PW.hp (h' := ([], px_MH (upd Z 5 (Z 5)) (va_up (va_up (va_up F 0 (F 0)) 8 (F 8)) 9 (F 9)))) (by rw [← zz_can]) ?_
      refine px_PW.callV kt_169.2 rfl rfl rfl rfl (mm_layE (px_rowN ok.2.2.1 ok.2.2.2.2.2.1 c0).1 ok.1 ok.2.1 ok.2.2.2.1 ok.2.2.2.2.1 (ok.2.2.2.2.2.2 _ (px_rowN ok.2.2.1 ok.2.2.2.2.2.1 c0).2)) (by decide) (fun v h1 q => ?_)
      obtain ⟨rfl, A9, B9, hAB9, rfl⟩ := q
      have hrow := ok.2.2.2.2.2.2 _ (px_rowN ok.2.2.1 ok.2.2.2.2.2.1 c0).2
      refine px_PW.steps kt_169.2 2 rfl ?_
      refine px_PW.br (fun c2 => ?_) (fun c2 => ?_)
      · have c2 : ¬ (what = 0) := of_decide_eq_false (px_nt c2)
        refine px_PW.steps kt_169.2 3 rfl ?_
        refine px_PW.br (fun c3 => ?_) (fun c3 => ?_)
        · have c3 : ¬ (what = 1) := of_decide_eq_false (px_nt c3)
          refine px_PW.steps kt_169.2 3 rfl ?_
          refine px_PW.br (fun c4 => ?_) (fun c4 => ?_)
          · have c4 : ¬ (what = 2) := of_decide_eq_false (px_nt c4)
            refine px_PW.steps kt_169.2 2 rfl ?_
            refine px_PW.callV kt_169.2 rfl rfl rfl rfl (mm_mfst _) (by decide) (fun v h1 q => ?_)
            obtain ⟨rfl, rfl⟩ := q
            refine px_PW.ret kt_169.2 rfl rfl ?_
            have E : s_mrowIs T J e w P F row what = (s_mfst (F 0) row) := (if_pos c0).trans ((if_pos c1).trans ((if_neg c2).trans ((if_neg c3).trans (if_neg c4))))
            rw [E]
            exact ⟨rfl, _, _, zz_sm, rfl⟩
          · have c4 : what = 2 := of_decide_eq_true (px_nf c4)
            refine px_PW.steps kt_169.2 1 rfl ?_
            refine px_PW.callV kt_169.2 rfl rfl rfl rfl (mm_nar (f := (F 0)) hrow.2.2.2.2.1 hAB9 hrow.2.2.2.2.2.1) (by decide) (fun v h1 q => ?_)
            obtain ⟨rfl, rfl⟩ := q
            refine px_PW.steps kt_169.2 1 rfl ?_
            refine px_PW.ret kt_169.2 rfl rfl ?_
            have E : s_mrowIs T J e w P F row what = (r_nar (r_B (e row.toNatClampNeg) (w row.toNatClampNeg) T J) (P row.toNatClampNeg)) := (if_pos c0).trans ((if_pos c1).trans ((if_neg c2).trans ((if_neg c3).trans (if_pos c4))))
            rw [E]
            exact ⟨rfl, _, _, zz_sm, rfl⟩
        · have c3 : what = 1 := of_decide_eq_true (px_nf c3)
          refine px_PW.steps kt_169.2 1 rfl ?_
          refine px_PW.callV kt_169.2 rfl rfl rfl rfl (mm_cuts (f := (F 0)) hrow.2.2.2.2.1 hAB9) (by decide) (fun v h1 q => ?_)
          obtain ⟨rfl, rfl⟩ := q
          refine px_PW.steps kt_169.2 1 rfl ?_
          refine px_PW.ret kt_169.2 rfl rfl ?_
          have E : s_mrowIs T J e w P F row what = (nI (r_cuts ((F 0) 1) (r_B (e row.toNatClampNeg) (w row.toNatClampNeg) T J) (P row.toNatClampNeg))) := (if_pos c0).trans ((if_pos c1).trans ((if_neg c2).trans (if_pos c3)))
          rw [E]
          exact ⟨rfl, _, _, zz_sm, rfl⟩
      · have c2 : what = 0 := of_decide_eq_true (px_nf c2)
        refine px_PW.steps kt_169.2 2 rfl ?_
        refine px_PW.callV kt_169.2 rfl rfl rfl rfl (mm_mlen _) (by decide) (fun v h1 q => ?_)
        obtain ⟨rfl, rfl⟩ := q
        refine px_PW.steps kt_169.2 1 rfl ?_
        refine px_PW.ret kt_169.2 rfl rfl ?_
        have E : s_mrowIs T J e w P F row what = (s_mlen (F 0) row) := (if_pos c0).trans ((if_pos c1).trans (if_pos c2))
        rw [E]
        exact ⟨rfl, _, _, zz_sm, rfl⟩
    · have c1 : ¬ (0 ≤ what ∧ what ≤ 3) := px_b1z (of_decide_eq_true (px_nf c1))
      refine px_PW.steps kt_169.2 2 rfl ?_
      refine px_PW.callV kt_169.2 rfl rfl rfl rfl (mm_error 1 (by decide)) (by decide) (fun v h1 q => ?_)
      obtain ⟨rfl, rfl⟩ := q
      refine px_PW.ret kt_169.2 rfl rfl ?_
      have E : s_mrowIs T J e w P F row what = (-1000000000 - 1) := (if_pos c0).trans (if_neg c1)
      rw [E]
      exact ⟨rfl, _, _, px_sm.err, rfl⟩
