/-- m turns from k on -/
def c_fold (f : Nat → Int32) (g : Int32 → Int32 → Int32) : Nat → Nat → Int32 → Int32
  | 0, _, a => a
  | m + 1, k, a => c_fold f g m (k + 1) (g a (f k))
/-- all scalars but the Row's are the same -/
def px_same (Z Z' : Nat → Int32) : Prop := ∀ i : Nat, ¬ (6 ≤ i ∧ i ≤ 14) → Z' i = Z i
theorem px_same.rf {Z : Nat → Int32} : px_same Z Z := fun _ _ => rfl
theorem px_same.tr {Z Z' Z2 : Nat → Int32} (h : px_same Z Z') (h2 : px_same Z' Z2) : px_same Z Z2 := fun i hi => (h2 i hi).trans (h i hi)
theorem c_lay_same (Z : Nat → Int32) (F : Nat → Nat → Int32) (k s : Int32) : px_same Z (c_lay Z F k s) := by
  intro i hi
  unfold c_lay w_lay w_lay4 upd
  rw [if_neg (by omega), if_neg (by omega), if_neg (by omega), if_neg (by omega), if_neg (by omega)]
def c_nrow (F : Nat → Nat → Int32) (k s : Int32) : Int32 := w_nar (c_lay (fun _ => 0) F k s)
def c_crow (F : Nat → Nat → Int32) (k s : Int32) : Int32 := w_cuts (c_lay (fun _ => 0) F k s)
def c_hrow (F : Nat → Nat → Int32) (k s : Int32) : Int32 := w_halves (c_lay (fun _ => 0) F k s)
def c_prow (F : Nat → Nat → Int32) (k s : Int32) : Int32 := c_lay (fun _ => 0) F k s 10
theorem c_nrow_eq (Z : Nat → Int32) (F : Nat → Nat → Int32) (k s : Int32) : w_nar (c_lay Z F k s) = c_nrow F k s := rfl
theorem c_crow_eq (Z : Nat → Int32) (F : Nat → Nat → Int32) (k s : Int32) : w_cuts (c_lay Z F k s) = c_crow F k s := rfl
theorem c_hrow_eq (Z : Nat → Int32) (F : Nat → Nat → Int32) (k s : Int32) : w_halves (c_lay Z F k s) = c_hrow F k s := rfl
theorem c_prow_eq (Z : Nat → Int32) (F : Nat → Nat → Int32) (k s : Int32) : c_lay Z F k s 10 = c_prow F k s := rfl
def c_nar (F : Nat → Nat → Int32) (R : Nat) (s : Int32) : Int32 := c_fold (fun k => c_nrow F (Int32.ofNat k) s) i_min R 0 (F 0 1)
theorem c_nar_loop {N : Nat → Int32} {F : Nat → Nat → Int32} (h0 : N 0 = 7) {R : Nat} (hR : F 0 4 = Int32.ofNat R) (hR8 : R ≤ 8) {s : Int32} {Q : Option Value → px_H → Prop} : ∀ (m k : Nat) (a : Int32) (Z : Nat → Int32), k + m = R → (∀ Z' : Nat → Int32, px_same Z Z' → px_PW 4 pc_103 Q 41 [some (.ref 0), some (.int s), some (.int (c_fold (fun k => c_nrow F (Int32.ofNat k) s) i_min m k a)), some (.int (Int32.ofNat R))] [] (px_CH Z' N F, [])) → px_PW 4 pc_103 Q 8 [some (.ref 0), some (.int s), some (.int a), some (.int (Int32.ofNat k))] [] (px_CH Z N F, [])
  | m, k, a, Z, hk, H => by
    refine px_PW.steps kt_103.2 3 rfl ?_
    refine px_PW.callV kt_103.2 rfl rfl rfl rfl (cc_is h0 4 (by decide)) (by decide) (fun v h1 q => ?_)
    obtain ⟨rfl, rfl⟩ := q
    refine px_PW.steps kt_103.2 1 rfl ?_
    refine px_PW.br (fun c0 => ?_) (fun c0 => ?_)
    · have c0 := of_decide_eq_true c0
      rw [hR, Int32.le_iff_toInt_le, px_ofn (by omega), px_ofn (by omega)] at c0
      have e : m = 0 := by omega
      subst e
      have e : k = R := by omega
      subst e
      exact H Z px_same.rf
    · have c0 := of_decide_eq_false c0
      rw [hR, Int32.le_iff_toInt_le, px_ofn (by omega), px_ofn (by omega)] at c0
      obtain ⟨m', rfl⟩ : ∃ m', m = m' + 1 := ⟨m - 1, by omega⟩
      refine px_PW.steps kt_103.2 3 rfl ?_
      refine px_PW.callV kt_103.2 rfl rfl rfl rfl (rr_lay h0 (Int32.ofNat k) s) (by decide) (fun v h1 q => ?_)
      obtain ⟨rfl, rfl⟩ := q
      refine px_PW.steps kt_103.2 3 rfl ?_
      refine px_PW.callV kt_103.2 rfl rfl rfl rfl rw_nar (by decide) (fun v h1 q => ?_)
      obtain ⟨rfl, rfl⟩ := q
      rw [c_nrow_eq]
      refine px_PW.steps kt_103.2 4 rfl ?_
      have e1 : Int32.ofNat k + 1 = Int32.ofNat (k + 1) := (nI_succ k).symm
      have g := c_nar_loop h0 hR hR8 (s := s) (Q := Q) m' (k + 1) (i_min a (c_nrow F (Int32.ofNat k) s)) (c_lay Z F (Int32.ofNat k) s) (by omega) (fun Z' hZ => H Z' ((c_lay_same Z F _ _).tr hZ))
      rw [← e1] at g
      exact g
theorem cb_nar {Z N : Nat → Int32} {F : Nat → Nat → Int32} (h0 : N 0 = 7) {R : Nat} (hR : F 0 4 = Int32.ofNat R) (hR8 : R ≤ 8) (s : Int32) : px_PM 5 103 [.ref 0, .int s] (px_CH Z N F, []) (fun r h' => r = some (.int (c_nar F R s)) ∧ ∃ Z', px_same Z Z' ∧ h' = (px_CH Z' N F, [])) := by
  refine px_PM.start (nL := 4) (code := pc_103) rfl rfl ?_
  refine px_PW.steps kt_103.2 2 rfl ?_
  refine px_PW.callV kt_103.2 rfl rfl rfl rfl (cc_is h0 1 (by decide)) (by decide) (fun v h1 q => ?_)
  obtain ⟨rfl, rfl⟩ := q
  refine px_PW.steps kt_103.2 3 rfl ?_
  refine c_nar_loop h0 hR hR8 R 0 (F 0 1) Z (Nat.zero_add R) (fun Z' hZ => ?_)
  refine px_PW.steps kt_103.2 1 rfl ?_
  exact px_PW.ret kt_103.2 rfl rfl ⟨rfl, Z', hZ, rfl⟩
def c_cuts (F : Nat → Nat → Int32) (R : Nat) (s : Int32) : Int32 := c_fold (fun k => c_crow F (Int32.ofNat k) s) (fun a b => a + b) R 0 0
theorem c_cuts_loop {N : Nat → Int32} {F : Nat → Nat → Int32} (h0 : N 0 = 7) {R : Nat} (hR : F 0 4 = Int32.ofNat R) (hR8 : R ≤ 8) {s : Int32} {Q : Option Value → px_H → Prop} : ∀ (m k : Nat) (a : Int32) (Z : Nat → Int32), k + m = R → (∀ Z' : Nat → Int32, px_same Z Z' → px_PW 4 pc_104 Q 35 [some (.ref 0), some (.int s), some (.int (c_fold (fun k => c_crow F (Int32.ofNat k) s) (fun a b => a + b) m k a)), some (.int (Int32.ofNat R))] [] (px_CH Z' N F, [])) → px_PW 4 pc_104 Q 4 [some (.ref 0), some (.int s), some (.int a), some (.int (Int32.ofNat k))] [] (px_CH Z N F, [])
  | m, k, a, Z, hk, H => by
    refine px_PW.steps kt_104.2 3 rfl ?_
    refine px_PW.callV kt_104.2 rfl rfl rfl rfl (cc_is h0 4 (by decide)) (by decide) (fun v h1 q => ?_)
    obtain ⟨rfl, rfl⟩ := q
    refine px_PW.steps kt_104.2 1 rfl ?_
    refine px_PW.br (fun c0 => ?_) (fun c0 => ?_)
    · have c0 := of_decide_eq_true c0
      rw [hR, Int32.le_iff_toInt_le, px_ofn (by omega), px_ofn (by omega)] at c0
      have e : m = 0 := by omega
      subst e
      have e : k = R := by omega
      subst e
      exact H Z px_same.rf
    · have c0 := of_decide_eq_false c0
      rw [hR, Int32.le_iff_toInt_le, px_ofn (by omega), px_ofn (by omega)] at c0
      obtain ⟨m', rfl⟩ : ∃ m', m = m' + 1 := ⟨m - 1, by omega⟩
      refine px_PW.steps kt_104.2 3 rfl ?_
      refine px_PW.callV kt_104.2 rfl rfl rfl rfl (rr_lay h0 (Int32.ofNat k) s) (by decide) (fun v h1 q => ?_)
      obtain ⟨rfl, rfl⟩ := q
      refine px_PW.steps kt_104.2 3 rfl ?_
      refine px_PW.callV kt_104.2 rfl rfl rfl rfl rw_cuts (by decide) (fun v h1 q => ?_)
      obtain ⟨rfl, rfl⟩ := q
      rw [c_crow_eq]
      refine px_PW.steps kt_104.2 4 rfl ?_
      have e1 : Int32.ofNat k + 1 = Int32.ofNat (k + 1) := (nI_succ k).symm
      have g := c_cuts_loop h0 hR hR8 (s := s) (Q := Q) m' (k + 1) ((fun a b => a + b) a (c_crow F (Int32.ofNat k) s)) (c_lay Z F (Int32.ofNat k) s) (by omega) (fun Z' hZ => H Z' ((c_lay_same Z F _ _).tr hZ))
      rw [← e1] at g
      exact g
theorem cb_cuts {Z N : Nat → Int32} {F : Nat → Nat → Int32} (h0 : N 0 = 7) {R : Nat} (hR : F 0 4 = Int32.ofNat R) (hR8 : R ≤ 8) (s : Int32) : px_PM 5 104 [.ref 0, .int s] (px_CH Z N F, []) (fun r h' => r = some (.int (c_cuts F R s)) ∧ ∃ Z', px_same Z Z' ∧ h' = (px_CH Z' N F, [])) := by
  refine px_PM.start (nL := 4) (code := pc_104) rfl rfl ?_
  refine px_PW.steps kt_104.2 4 rfl ?_
  refine c_cuts_loop h0 hR hR8 R 0 0 Z (Nat.zero_add R) (fun Z' hZ => ?_)
  refine px_PW.steps kt_104.2 1 rfl ?_
  exact px_PW.ret kt_104.2 rfl rfl ⟨rfl, Z', hZ, rfl⟩
def c_halves (F : Nat → Nat → Int32) (R : Nat) : Int32 := c_fold (fun k => c_hrow F (Int32.ofNat k) (F 0 6)) (fun a b => a + b) R 0 0
theorem c_halves_loop {N : Nat → Int32} {F : Nat → Nat → Int32} (h0 : N 0 = 7) {R : Nat} (hR : F 0 4 = Int32.ofNat R) (hR8 : R ≤ 8) {Q : Option Value → px_H → Prop} : ∀ (m k : Nat) (a : Int32) (Z : Nat → Int32), k + m = R → (∀ Z' : Nat → Int32, px_same Z Z' → px_PW 4 pc_108 Q 40 [some (.ref 0), some (.int (c_fold (fun k => c_hrow F (Int32.ofNat k) (F 0 6)) (fun a b => a + b) m k a)), some (.int (Int32.ofNat R))] [] (px_CH Z' N F, [])) → px_PW 4 pc_108 Q 4 [some (.ref 0), some (.int a), some (.int (Int32.ofNat k))] [] (px_CH Z N F, [])
  | m, k, a, Z, hk, H => by
    refine px_PW.steps kt_108.2 3 rfl ?_
    refine px_PW.callV kt_108.2 rfl rfl rfl rfl (cc_is h0 4 (by decide)) (by decide) (fun v h1 q => ?_)
    obtain ⟨rfl, rfl⟩ := q
    refine px_PW.steps kt_108.2 1 rfl ?_
    refine px_PW.br (fun c0 => ?_) (fun c0 => ?_)
    · have c0 := of_decide_eq_true c0
      rw [hR, Int32.le_iff_toInt_le, px_ofn (by omega), px_ofn (by omega)] at c0
      have e : m = 0 := by omega
      subst e
      have e : k = R := by omega
      subst e
      exact H Z px_same.rf
    · have c0 := of_decide_eq_false c0
      rw [hR, Int32.le_iff_toInt_le, px_ofn (by omega), px_ofn (by omega)] at c0
      obtain ⟨m', rfl⟩ : ∃ m', m = m' + 1 := ⟨m - 1, by omega⟩
      refine px_PW.steps kt_108.2 4 rfl ?_
      refine px_PW.callV kt_108.2 rfl rfl rfl rfl (cc_is h0 6 (by decide)) (by decide) (fun v h1 q => ?_)
      obtain ⟨rfl, rfl⟩ := q
      refine px_PW.callV kt_108.2 rfl rfl rfl rfl (rr_lay h0 (Int32.ofNat k) (F 0 6)) (by decide) (fun v h1 q => ?_)
      obtain ⟨rfl, rfl⟩ := q
      refine px_PW.steps kt_108.2 3 rfl ?_
      refine px_PW.callV kt_108.2 rfl rfl rfl rfl rw_halves (by decide) (fun v h1 q => ?_)
      obtain ⟨rfl, rfl⟩ := q
      rw [c_hrow_eq]
      refine px_PW.steps kt_108.2 4 rfl ?_
      have e1 : Int32.ofNat k + 1 = Int32.ofNat (k + 1) := (nI_succ k).symm
      have g := c_halves_loop h0 hR hR8 (Q := Q) m' (k + 1) ((fun a b => a + b) a (c_hrow F (Int32.ofNat k) (F 0 6))) (c_lay Z F (Int32.ofNat k) (F 0 6)) (by omega) (fun Z' hZ => H Z' ((c_lay_same Z F _ _).tr hZ))
      rw [← e1] at g
      exact g
theorem cb_halves {Z N : Nat → Int32} {F : Nat → Nat → Int32} (h0 : N 0 = 7) {R : Nat} (hR : F 0 4 = Int32.ofNat R) (hR8 : R ≤ 8) : px_PM 5 108 [.ref 0] (px_CH Z N F, []) (fun r h' => r = some (.int (c_halves F R)) ∧ ∃ Z', px_same Z Z' ∧ h' = (px_CH Z' N F, [])) := by
  refine px_PM.start (nL := 3) (code := pc_108) rfl rfl ?_
  refine px_PW.steps kt_108.2 4 rfl ?_
  refine c_halves_loop h0 hR hR8 R 0 0 Z (Nat.zero_add R) (fun Z' hZ => ?_)
  refine px_PW.steps kt_108.2 1 rfl ?_
  exact px_PW.ret kt_108.2 rfl rfl ⟨rfl, Z', hZ, rfl⟩
def c_pcs (F : Nat → Nat → Int32) (R : Nat) : Int32 := c_fold (fun k => c_prow F (Int32.ofNat k) (F 0 6)) (fun a b => a + b) R 0 0
theorem c_pcs_loop {N : Nat → Int32} {F : Nat → Nat → Int32} (h0 : N 0 = 7) {R : Nat} (hR : F 0 4 = Int32.ofNat R) (hR8 : R ≤ 8) {Q : Option Value → px_H → Prop} : ∀ (m k : Nat) (a : Int32) (Z : Nat → Int32), k + m = R → (∀ Z' : Nat → Int32, px_same Z Z' → px_PW 4 pc_107 Q 40 [some (.ref 0), some (.int (c_fold (fun k => c_prow F (Int32.ofNat k) (F 0 6)) (fun a b => a + b) m k a)), some (.int (Int32.ofNat R))] [] (px_CH Z' N F, [])) → px_PW 4 pc_107 Q 4 [some (.ref 0), some (.int a), some (.int (Int32.ofNat k))] [] (px_CH Z N F, [])
  | m, k, a, Z, hk, H => by
    refine px_PW.steps kt_107.2 3 rfl ?_
    refine px_PW.callV kt_107.2 rfl rfl rfl rfl (cc_is h0 4 (by decide)) (by decide) (fun v h1 q => ?_)
    obtain ⟨rfl, rfl⟩ := q
    refine px_PW.steps kt_107.2 1 rfl ?_
    refine px_PW.br (fun c0 => ?_) (fun c0 => ?_)
    · have c0 := of_decide_eq_true c0
      rw [hR, Int32.le_iff_toInt_le, px_ofn (by omega), px_ofn (by omega)] at c0
      have e : m = 0 := by omega
      subst e
      have e : k = R := by omega
      subst e
      exact H Z px_same.rf
    · have c0 := of_decide_eq_false c0
      rw [hR, Int32.le_iff_toInt_le, px_ofn (by omega), px_ofn (by omega)] at c0
      obtain ⟨m', rfl⟩ : ∃ m', m = m' + 1 := ⟨m - 1, by omega⟩
      refine px_PW.steps kt_107.2 4 rfl ?_
      refine px_PW.callV kt_107.2 rfl rfl rfl rfl (cc_is h0 6 (by decide)) (by decide) (fun v h1 q => ?_)
      obtain ⟨rfl, rfl⟩ := q
      refine px_PW.callV kt_107.2 rfl rfl rfl rfl (rr_lay h0 (Int32.ofNat k) (F 0 6)) (by decide) (fun v h1 q => ?_)
      obtain ⟨rfl, rfl⟩ := q
      refine px_PW.steps kt_107.2 4 rfl ?_
      rw [c_prow_eq]
      refine px_PW.steps kt_107.2 4 rfl ?_
      have e1 : Int32.ofNat k + 1 = Int32.ofNat (k + 1) := (nI_succ k).symm
      have g := c_pcs_loop h0 hR hR8 (Q := Q) m' (k + 1) ((fun a b => a + b) a (c_prow F (Int32.ofNat k) (F 0 6))) (c_lay Z F (Int32.ofNat k) (F 0 6)) (by omega) (fun Z' hZ => H Z' ((c_lay_same Z F _ _).tr hZ))
      rw [← e1] at g
      exact g
theorem cb_pcs {Z N : Nat → Int32} {F : Nat → Nat → Int32} (h0 : N 0 = 7) {R : Nat} (hR : F 0 4 = Int32.ofNat R) (hR8 : R ≤ 8) : px_PM 5 107 [.ref 0] (px_CH Z N F, []) (fun r h' => r = some (.int (c_pcs F R)) ∧ ∃ Z', px_same Z Z' ∧ h' = (px_CH Z' N F, [])) := by
  refine px_PM.start (nL := 3) (code := pc_107) rfl rfl ?_
  refine px_PW.steps kt_107.2 4 rfl ?_
  refine c_pcs_loop h0 hR hR8 R 0 0 Z (Nat.zero_add R) (fun Z' hZ => ?_)
  refine px_PW.steps kt_107.2 1 rfl ?_
  exact px_PW.ret kt_107.2 rfl rfl ⟨rfl, Z', hZ, rfl⟩
