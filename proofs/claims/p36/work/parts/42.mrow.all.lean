/-! part 42.mrow -/
section
theorem zz_n8 {α : Type} (G : Nat → α) (a b c : α) : va_up (va_up (va_up G 8 a) 9 b) 8 c = va_up (va_up G 8 c) 9 b := by
  funext j
  unfold va_up
  by_cases h : j = 8
  · subst h; rw [if_pos rfl, if_neg (by decide), if_pos rfl]
  · rw [if_neg h]
    by_cases h9 : j = 9
    · rw [if_pos h9, if_pos h9]
    · rw [if_neg h9, if_neg h9, if_neg h, if_neg h]
theorem zz_n0 {α : Type} (G : Nat → α) (f a b c : α) : va_up (va_up (va_up (va_up G 0 f) 8 a) 9 b) 0 c = va_up (va_up (va_up G 0 c) 8 a) 9 b := by
  funext j
  unfold va_up
  by_cases h : j = 0
  · subst h; rw [if_pos rfl, if_neg (by decide), if_neg (by decide), if_pos rfl]
  · rw [if_neg h]
    by_cases h9 : j = 9
    · rw [if_pos h9, if_pos h9]
    · rw [if_neg h9, if_neg h9]
      by_cases h8 : j = 8
      · rw [if_pos h8, if_pos h8]
      · rw [if_neg h8, if_neg h8, if_neg h, if_neg h]
theorem mr_8 {d : Nat} {code : Nat → Option px_A} (hT : px_frT code) {Q : Option Value → px_H → Prop} {pc n : Nat} {i x : Int32} {lv : px_L} {r : List Value} {Z f A B : Nat → Int32} {F : Nat → Nat → Int32} {p : Int32} (hc : code pc = some px_iast) (hi : i = nI n) (hn : n < 100) (kk : px_PW d code Q (pc + 1) lv r ([], px_MH (upd Z 5 p) (va_up (va_up (va_up F 0 f) 8 (upd A n x)) 9 B))) : px_PW d code Q pc lv (.int x :: .int i :: .ref 1009 :: r) ([], px_MH (upd Z 5 p) (va_up (va_up (va_up F 0 f) 8 A) 9 B)) := by
  refine ms_8 hT hc hi hn ?_
  rw [zz_n8]
  exact kk
theorem mr_9 {d : Nat} {code : Nat → Option px_A} (hT : px_frT code) {Q : Option Value → px_H → Prop} {pc n : Nat} {i x : Int32} {lv : px_L} {r : List Value} {Z f A B : Nat → Int32} {F : Nat → Nat → Int32} {p : Int32} (hc : code pc = some px_iast) (hi : i = nI n) (hn : n < 100) (kk : px_PW d code Q (pc + 1) lv r ([], px_MH (upd Z 5 p) (va_up (va_up (va_up F 0 f) 8 A) 9 (upd B n x)))) : px_PW d code Q pc lv (.int x :: .int i :: .ref 1010 :: r) ([], px_MH (upd Z 5 p) (va_up (va_up (va_up F 0 f) 8 A) 9 B)) := by
  refine ms_9 hT hc hi hn ?_
  rw [px_up_up]
  exact kk
theorem mr_0 {d : Nat} {code : Nat → Option px_A} (hT : px_frT code) {Q : Option Value → px_H → Prop} {pc n : Nat} {i x : Int32} {lv : px_L} {r : List Value} {Z f A B : Nat → Int32} {F : Nat → Nat → Int32} {p : Int32} (hc : code pc = some px_iast) (hi : i = nI n) (hn : n < 370) (kk : px_PW d code Q (pc + 1) lv r ([], px_MH (upd Z 5 p) (va_up (va_up (va_up F 0 (upd f n x)) 8 A) 9 B))) : px_PW d code Q pc lv (.int x :: .int i :: .ref 1001 :: r) ([], px_MH (upd Z 5 p) (va_up (va_up (va_up F 0 f) 8 A) 9 B)) := by
  refine ms_0 hT hc hi hn ?_
  rw [zz_n0]
  exact kk
theorem mr_5 {d : Nat} {code : Nat → Option px_A} (hT : px_frT code) {Q : Option Value → px_H → Prop} {pc : Nat} {x : Int32} {lv : px_L} {r : List Value} {Z f A B : Nat → Int32} {F : Nat → Nat → Int32} {p : Int32} (hc : code pc = some (px_putf true 8 15)) (kk : px_PW d code Q (pc + 3) lv r ([], px_MH (upd Z 5 x) (va_up (va_up (va_up F 0 f) 8 A) 9 B))) : px_PW d code Q pc lv (.int x :: .ref 1000 :: r) ([], px_MH (upd Z 5 p) (va_up (va_up (va_up F 0 f) 8 A) 9 B)) := by
  refine mo_5 hT hc ?_
  rw [zz_uu]
  exact kk
def s_mlen (f : Nat → Int32) (r : Int32) : Int32 := (if 100 ≤ ((f 0) + (r * (f 3))) then ((f 0) + (r * (f 3))) else 100)
theorem mm_mlen {Z f A B : Nat → Int32} {F : Nat → Nat → Int32} {p : Int32} (r : Int32) : px_PM 1 141 [.ref 1000, .int r] ([], px_MH (upd Z 5 p) (va_up (va_up (va_up F 0 f) 8 A) 9 B)) (fun r2 h' => r2 = some (.int (s_mlen f r)) ∧ h' = ([], px_MH (upd Z 5 p) (va_up (va_up (va_up F 0 f) 8 A) 9 B))) := by
  refine px_PM.start (nL := 3) (code := pc_141) rfl rfl ?_
  refine px_PW.steps kt_141.2 3 rfl ?_
  refine px_PW.steps kt_141.2 1 rfl ?_
  refine px_PW.steps kt_141.2 4 rfl ?_
  refine px_PW.steps kt_141.2 1 rfl ?_
  refine px_PW.steps kt_141.2 6 rfl ?_
  refine px_PW.br (fun c0 => ?_) (fun c0 => ?_)
  · have c0 : 100 ≤ ((f 0) + (r * (f 3))) := of_decide_eq_true c0
    refine px_PW.steps kt_141.2 1 rfl ?_
    refine px_PW.ret kt_141.2 rfl rfl ?_
    exact ⟨congrArg (fun z => some (Value.int z)) (show s_mlen f r = ((f 0) + (r * (f 3))) from if_pos c0).symm, rfl⟩
  · have c0 : ¬ (100 ≤ ((f 0) + (r * (f 3)))) := of_decide_eq_false c0
    refine px_PW.steps kt_141.2 2 rfl ?_
    refine px_PW.ret kt_141.2 rfl rfl ?_
    exact ⟨congrArg (fun z => some (Value.int z)) (show s_mlen f r = 100 from if_neg c0).symm, rfl⟩
def s_mfst (f : Nat → Int32) (r : Int32) : Int32 := (if (f 5) = 1 then (if (r - r / 2 * 2) = 1 then (if ((f 6) + ((f 1) / 2)) ≤ (f 1) then ((f 6) + ((f 1) / 2)) else (((f 6) + ((f 1) / 2)) - (f 1))) else (if (f 6) ≤ (f 1) then (f 6) else ((f 6) - (f 1)))) else (if (f 6) ≤ (f 1) then (f 6) else ((f 6) - (f 1))))
theorem mm_mfst {Z f A B : Nat → Int32} {F : Nat → Nat → Int32} {p : Int32} (r : Int32) : px_PM 1 142 [.ref 1000, .int r] ([], px_MH (upd Z 5 p) (va_up (va_up (va_up F 0 f) 8 A) 9 B)) (fun r2 h' => r2 = some (.int (s_mfst f r)) ∧ h' = ([], px_MH (upd Z 5 p) (va_up (va_up (va_up F 0 f) 8 A) 9 B))) := by
  refine px_PM.start (nL := 3) (code := pc_142) rfl rfl ?_
  refine px_PW.steps kt_142.2 3 rfl ?_
  refine px_PW.steps kt_142.2 1 rfl ?_
  refine px_PW.steps kt_142.2 2 rfl ?_
  refine px_PW.br (fun c0 => ?_) (fun c0 => ?_)
  · have c0 : ¬ ((f 5) = 1) := of_decide_eq_false (px_nt c0)
    refine px_PW.steps kt_142.2 3 rfl ?_
    refine px_PW.steps kt_142.2 1 rfl ?_
    refine px_PW.steps kt_142.2 5 rfl ?_
    refine px_PW.steps kt_142.2 1 rfl ?_
    refine px_PW.steps kt_142.2 1 rfl ?_
    refine px_PW.br (fun c1 => ?_) (fun c1 => ?_)
    · have c1 : (f 6) ≤ (f 1) := of_decide_eq_true c1
      refine px_PW.steps kt_142.2 1 rfl ?_
      refine px_PW.ret kt_142.2 rfl rfl ?_
      exact ⟨congrArg (fun z => some (Value.int z)) (show s_mfst f r = (f 6) from (if_neg c0).trans (if_pos c1)).symm, rfl⟩
    · have c1 : ¬ ((f 6) ≤ (f 1)) := of_decide_eq_false c1
      refine px_PW.steps kt_142.2 4 rfl ?_
      refine px_PW.steps kt_142.2 1 rfl ?_
      refine px_PW.steps kt_142.2 2 rfl ?_
      refine px_PW.ret kt_142.2 rfl rfl ?_
      exact ⟨congrArg (fun z => some (Value.int z)) (show s_mfst f r = ((f 6) - (f 1)) from (if_neg c0).trans (if_neg c1)).symm, rfl⟩
  · have c0 : (f 5) = 1 := of_decide_eq_true (px_nf c0)
    refine px_PW.steps kt_142.2 5 rfl ?_
    refine px_PW.br (fun c2 => ?_) (fun c2 => ?_)
    · have c2 : ¬ ((r - r / 2 * 2) = 1) := of_decide_eq_false (px_nt c2)
      refine px_PW.steps kt_142.2 3 rfl ?_
      refine px_PW.steps kt_142.2 1 rfl ?_
      refine px_PW.steps kt_142.2 5 rfl ?_
      refine px_PW.steps kt_142.2 1 rfl ?_
      refine px_PW.steps kt_142.2 1 rfl ?_
      refine px_PW.br (fun c3 => ?_) (fun c3 => ?_)
      · have c3 : (f 6) ≤ (f 1) := of_decide_eq_true c3
        refine px_PW.steps kt_142.2 1 rfl ?_
        refine px_PW.ret kt_142.2 rfl rfl ?_
        exact ⟨congrArg (fun z => some (Value.int z)) (show s_mfst f r = (f 6) from (if_pos c0).trans ((if_neg c2).trans (if_pos c3))).symm, rfl⟩
      · have c3 : ¬ ((f 6) ≤ (f 1)) := of_decide_eq_false c3
        refine px_PW.steps kt_142.2 4 rfl ?_
        refine px_PW.steps kt_142.2 1 rfl ?_
        refine px_PW.steps kt_142.2 2 rfl ?_
        refine px_PW.ret kt_142.2 rfl rfl ?_
        exact ⟨congrArg (fun z => some (Value.int z)) (show s_mfst f r = ((f 6) - (f 1)) from (if_pos c0).trans ((if_neg c2).trans (if_neg c3))).symm, rfl⟩
    · have c2 : (r - r / 2 * 2) = 1 := of_decide_eq_true (px_nf c2)
      refine px_PW.steps kt_142.2 3 rfl ?_
      refine px_PW.steps kt_142.2 1 rfl ?_
      refine px_PW.steps kt_142.2 3 rfl ?_
      refine px_PW.steps kt_142.2 1 rfl ?_
      refine px_PW.steps kt_142.2 9 rfl ?_
      refine px_PW.steps kt_142.2 1 rfl ?_
      refine px_PW.steps kt_142.2 1 rfl ?_
      refine px_PW.br (fun c4 => ?_) (fun c4 => ?_)
      · have c4 : ((f 6) + ((f 1) / 2)) ≤ (f 1) := of_decide_eq_true c4
        refine px_PW.steps kt_142.2 1 rfl ?_
        refine px_PW.ret kt_142.2 rfl rfl ?_
        exact ⟨congrArg (fun z => some (Value.int z)) (show s_mfst f r = ((f 6) + ((f 1) / 2)) from (if_pos c0).trans ((if_pos c2).trans (if_pos c4))).symm, rfl⟩
      · have c4 : ¬ (((f 6) + ((f 1) / 2)) ≤ (f 1)) := of_decide_eq_false c4
        refine px_PW.steps kt_142.2 4 rfl ?_
        refine px_PW.steps kt_142.2 1 rfl ?_
        refine px_PW.steps kt_142.2 2 rfl ?_
        refine px_PW.ret kt_142.2 rfl rfl ?_
        exact ⟨congrArg (fun z => some (Value.int z)) (show s_mfst f r = (((f 6) + ((f 1) / 2)) - (f 1)) from (if_pos c0).trans ((if_pos c2).trans (if_neg c4))).symm, rfl⟩
def r_wd (w T : Nat) (k : Nat) : Nat := if k = 0 then w else T
def r_beg (w T J : Nat) : Nat → Nat
  | 0 => 0
  | k + 1 => r_beg w T J k + (r_wd w T k + J)
def r_wid (e w T J k : Nat) : Nat := if r_beg w T J k + r_wd w T k ≤ e then r_wd w T k else e - r_beg w T J k
def r_A (w T J k : Nat) : Int32 := nI (r_beg w T J k)
def r_B (e w T J k : Nat) : Int32 := nI (r_wid e w T J k)
theorem r_beg_le {w T J : Nat} (hw : w ≤ 200) (hT2 : T ≤ 200) (hJ9 : J ≤ 9) : ∀ k : Nat, k ≤ 100 → r_beg w T J k ≤ 30000 := by
  have h : ∀ k : Nat, r_beg w T J k ≤ 209 * k := by
    intro k
    induction k with
    | zero => exact Nat.le_refl 0
    | succ k ih =>
      have hwd : r_wd w T k ≤ 200 := by unfold r_wd; split <;> omega
      show r_beg w T J k + (r_wd w T k + J) ≤ 209 * (k + 1)
      omega
  intro k hk
  have := h k
  omega
theorem m_lay_loop {Z f : Nat → Int32} {F : Nat → Nat → Int32} {e w T J P : Nat} (hT : f 1 = nI T) (hJ : f 2 = nI J) (he : e ≤ 5000) (hw : w ≤ 200) (hT2 : T ≤ 200) (hJ9 : J ≤ 9) (hP : P ≤ 100) (hP1 : ∀ j : Nat, j < P → r_beg w T J j < e) (hP2 : e ≤ r_beg w T J P) {r : Int32} {Q : Option Value → px_H → Prop} : ∀ (m k : Nat) (A B : Nat → Int32), k + m = P → (∀ j : Nat, j < k → A j = r_A w T J j ∧ B j = r_B e w T J j) → (∀ (A B : Nat → Int32) (x y : Int32), (∀ j : Nat, j < P → A j = r_A w T J j ∧ B j = r_B e w T J j) → px_PW 1 pc_143 Q 93 [some (.ref 1000), some (.int r), some (.int (nI e)), some (.int x), some (.int y)] [] ([], px_MH (upd Z 5 (nI P)) (va_up (va_up (va_up F 0 f) 8 A) 9 B))) → px_PW 1 pc_143 Q 20 [some (.ref 1000), some (.int r), some (.int (nI e)), some (.int (nI (r_beg w T J k))), some (.int (nI (r_wd w T k)))] [] ([], px_MH (upd Z 5 (nI k)) (va_up (va_up (va_up F 0 f) 8 A) 9 B))
  | m, k, A, B, hk, hAB, H => by
    have hwd : r_wd w T k ≤ 200 := by unfold r_wd; split <;> omega
    have hbg : r_beg w T J k ≤ 30000 := r_beg_le hw hT2 hJ9 k (by omega)
    refine px_PW.steps kt_143.2 3 rfl ?_
    refine px_PW.br (fun c0 => ?_) (fun c0 => ?_)
    · have c0 : (nI e) ≤ (nI (r_beg w T J k)) := of_decide_eq_true c0
      have c0 : e ≤ r_beg w T J k := (nI_leI (a := e) (b := r_beg w T J k) (by omega) (by omega)).mp c0
      obtain rfl : k = P := by
        rcases Nat.lt_or_ge k P with q | q
        · have := hP1 k q; omega
        · omega
      exact H A B _ _ hAB
    · have c0 : ¬ ((nI e) ≤ (nI (r_beg w T J k))) := of_decide_eq_false c0
      have c0 : ¬ (e ≤ r_beg w T J k) := fun q => c0 ((nI_leI (a := e) (b := r_beg w T J k) (by omega) (by omega)).mpr q)
      obtain ⟨m2, rfl⟩ : ∃ m2, m = m2 + 1 := ⟨m - 1, by
        rcases Nat.eq_zero_or_pos m with q | q
        · subst q; obtain rfl : k = P := by omega
          exact absurd hP2 c0
        · omega⟩
      refine px_PW.steps kt_143.2 5 rfl ?_
      refine mr_8 kt_143.2 rfl (n := k) rfl (by omega) ?_
      refine px_PW.steps kt_143.2 9 rfl ?_
      refine px_PW.br (fun c1 => ?_) (fun c1 => ?_)
      · have c1 : ((nI (r_beg w T J k)) + (nI (r_wd w T k))) ≤ (nI e) := of_decide_eq_true c1
        have c1 : r_beg w T J k + r_wd w T k ≤ e := by rw [nI_add] at c1; exact (nI_leI (by omega) (by omega)).mp c1
        refine px_PW.steps kt_143.2 1 rfl ?_
        refine mr_9 kt_143.2 rfl (n := k) rfl (by omega) ?_
        refine px_PW.steps kt_143.2 5 rfl ?_
        refine mr_5 kt_143.2 rfl ?_
        refine px_PW.steps kt_143.2 5 rfl ?_
        refine px_PW.steps kt_143.2 1 rfl ?_
        refine px_PW.steps kt_143.2 6 rfl ?_
        refine px_PW.steps kt_143.2 1 rfl ?_
        refine px_PW.steps kt_143.2 2 rfl ?_
        have eB : (nI (r_wd w T k)) = r_B e w T J k := by unfold r_B r_wid; rw [if_pos c1]
        have g := m_lay_loop hT hJ he hw hT2 hJ9 hP hP1 hP2 (Z := Z) (F := F) (r := r) (Q := Q) m2 (k + 1) (upd A k (nI (r_beg w T J k))) (upd B k (nI (r_wd w T k))) (by omega) (fun j hj => by
          rcases Nat.lt_or_ge j k with q | q
          · rw [px_upd_ne _ _ (by omega), px_upd_ne _ _ (by omega)]; exact hAB j q
          · obtain rfl : j = k := by omega
            rw [px_upd_self, px_upd_self]; exact ⟨rfl, eB⟩) H
        rw [nI_succ k] at g
        refine px_PW.lc (lv' := [some (.ref 1000), some (.int r), some (.int (nI e)), some (.int (nI (r_beg w T J (k + 1)))), some (.int (nI (r_wd w T (k + 1))))]) (show ([some (.ref 1000), some (.int r), some (.int (nI e)), some (.int (nI (r_beg w T J k) + (nI (r_wd w T k) + f 2))), some (.int (f 1))] : px_L) = _ from by rw [hT, hJ, nI_add, nI_add]; rfl) ?_
        exact g
      · have c1 : ¬ (((nI (r_beg w T J k)) + (nI (r_wd w T k))) ≤ (nI e)) := of_decide_eq_false c1
        have c1 : ¬ (r_beg w T J k + r_wd w T k ≤ e) := by rw [nI_add] at c1; exact fun q => c1 ((nI_leI (by omega) (by omega)).mpr q)
        refine px_PW.steps kt_143.2 4 rfl ?_
        refine mr_9 kt_143.2 rfl (n := k) rfl (by omega) ?_
        refine px_PW.steps kt_143.2 5 rfl ?_
        refine mr_5 kt_143.2 rfl ?_
        refine px_PW.steps kt_143.2 5 rfl ?_
        refine px_PW.steps kt_143.2 1 rfl ?_
        refine px_PW.steps kt_143.2 6 rfl ?_
        refine px_PW.steps kt_143.2 1 rfl ?_
        refine px_PW.steps kt_143.2 2 rfl ?_
        have eB : (nI e - nI (r_beg w T J k)) = r_B e w T J k := by unfold r_B r_wid; rw [if_neg c1]; exact zz_sub (by omega)
        have g := m_lay_loop hT hJ he hw hT2 hJ9 hP hP1 hP2 (Z := Z) (F := F) (r := r) (Q := Q) m2 (k + 1) (upd A k (nI (r_beg w T J k))) (upd B k (nI e - nI (r_beg w T J k))) (by omega) (fun j hj => by
          rcases Nat.lt_or_ge j k with q | q
          · rw [px_upd_ne _ _ (by omega), px_upd_ne _ _ (by omega)]; exact hAB j q
          · obtain rfl : j = k := by omega
            rw [px_upd_self, px_upd_self]; exact ⟨rfl, eB⟩) H
        rw [nI_succ k] at g
        refine px_PW.lc (lv' := [some (.ref 1000), some (.int r), some (.int (nI e)), some (.int (nI (r_beg w T J (k + 1)))), some (.int (nI (r_wd w T (k + 1))))]) (show ([some (.ref 1000), some (.int r), some (.int (nI e)), some (.int (nI (r_beg w T J k) + (nI (r_wd w T k) + f 2))), some (.int (f 1))] : px_L) = _ from by rw [hT, hJ, nI_add, nI_add]; rfl) ?_
        exact g
theorem mm_lay {Z f A B : Nat → Int32} {F : Nat → Nat → Int32} {p : Int32} {e w T J P : Nat} {r : Int32} (hlen : s_mlen f r = nI e) (hfst : s_mfst f r = nI w) (hT : f 1 = nI T) (hJ : f 2 = nI J) (he : e ≤ 5000) (hw : w ≤ 200) (hT2 : T ≤ 200) (hJ9 : J ≤ 9) (hP : P ≤ 100) (hP1 : ∀ j : Nat, j < P → r_beg w T J j < e) (hP2 : e ≤ r_beg w T J P) : px_PM 2 143 [.ref 1000, .int r] ([], px_MH (upd Z 5 p) (va_up (va_up (va_up F 0 f) 8 A) 9 B)) (fun r2 h' => r2 = none ∧ ∃ A' B' : Nat → Int32, (∀ j : Nat, j < P → A' j = r_A w T J j ∧ B' j = r_B e w T J j) ∧ h' = ([], px_MH (upd Z 5 (nI P)) (va_up (va_up (va_up F 0 f) 8 A') 9 B'))) := by
  refine px_PM.start (nL := 5) (code := pc_143) rfl rfl ?_
  refine px_PW.steps kt_143.2 2 rfl ?_
  refine px_PW.callV kt_143.2 rfl rfl rfl rfl (mm_mlen _) (by decide) (fun v h1 q => ?_)
  obtain ⟨rfl, rfl⟩ := q
  refine px_PW.steps kt_143.2 5 rfl ?_
  refine px_PW.callV kt_143.2 rfl rfl rfl rfl (mm_mfst _) (by decide) (fun v h1 q => ?_)
  obtain ⟨rfl, rfl⟩ := q
  refine px_PW.steps kt_143.2 3 rfl ?_
  refine mr_5 kt_143.2 rfl ?_
  refine px_PW.lc (lv' := [some (.ref 1000), some (.int r), some (.int (nI e)), some (.int (nI (r_beg w T J 0))), some (.int (nI (r_wd w T 0)))]) (show ([some (.ref 1000), some (.int r), some (.int (s_mlen f r)), some (.int 0), some (.int (s_mfst f r))] : px_L) = _ from by rw [hlen, hfst]; rfl) ?_
  refine m_lay_loop hT hJ he hw hT2 hJ9 hP hP1 hP2 P 0 A B (by omega) (fun j hj => absurd hj (by omega)) (fun A2 B2 x y h2 => ?_)
  exact px_PW.ret kt_143.2 rfl rfl ⟨rfl, A2, B2, h2, rfl⟩
end
/-! part 43.mask -/
section
/-- of m places from k on those of which p holds, and n -/
def zz_cnt (p : Nat → Bool) : Nat → Nat → Nat → Nat
  | 0, _, n => n
  | m + 1, k, n => zz_cnt p m (k + 1) (if p k = true then n + 1 else n)
theorem zz_cnt_congr {p q : Nat → Bool} : ∀ (m k n : Nat), (∀ j : Nat, k ≤ j → j < k + m → p j = q j) → zz_cnt p m k n = zz_cnt q m k n
  | 0, _, _, _ => rfl
  | m + 1, k, n, h => by
    unfold zz_cnt
    rw [h k (Nat.le_refl k) (by omega)]
    exact zz_cnt_congr m (k + 1) _ (fun j h1 h2 => h j (by omega) (by omega))
theorem zz_cnt_le (p : Nat → Bool) : ∀ (m k n : Nat), zz_cnt p m k n ≤ n + m
  | 0, _, n => Nat.le_refl n
  | m + 1, k, n => by
    unfold zz_cnt
    split
    · have h := zz_cnt_le p m (k + 1) (n + 1); omega
    · have h := zz_cnt_le p m (k + 1) n; omega
def zz_mn (g : Nat → Int32) : Nat → Nat → Int32 → Int32
  | 0, _, a => a
  | m + 1, k, a => zz_mn g m (k + 1) (if a ≤ g k then a else g k)
def s_ap (a b : Int32) : Int32 := if b ≤ a then a - b else b - a
def s_gp1 (l x y : Int32) : Int32 := if (if l ≤ x then l else x) ≤ y then (if l ≤ x then l else x) else y
def zz_gp (Ar Br : Nat → Int32) (from_ to : Int32) : Nat → Nat → Int32 → Int32
  | 0, _, a => a
  | m + 1, k, a => zz_gp Ar Br from_ to m (k + 1) (s_gp1 a (s_ap (Ar k) from_) (s_ap (Ar k + Br k) to))
theorem cuts_loop {Z f A B : Nat → Int32} {F : Nat → Nat → Int32} {P : Nat} {Ar Br : Nat → Int32} (hP : P ≤ 100) (hAB : ∀ j : Nat, j < P → A j = Ar j ∧ B j = Br j)  {Q : Option Value → px_H → Prop} : ∀ (m k1 n : Nat), k1 + m = P → (∀ k : Nat, px_PW 0 pc_144 Q 41 [some (.ref 1000), some (.int (nI (zz_cnt (fun k => decide (¬ (f 1 ≤ Br k))) m k1 n))), some (.int (nI k))] [] ([], px_MH (upd Z 5 (nI P)) (va_up (va_up (va_up F 0 f) 8 A) 9 B))) → px_PW 0 pc_144 Q 4 [some (.ref 1000), some (.int (nI n)), some (.int (nI k1))] [] ([], px_MH (upd Z 5 (nI P)) (va_up (va_up (va_up F 0 f) 8 A) 9 B))
  | m, k, n, hk, H => by
    refine px_PW.steps kt_144.2 4 rfl ?_
    refine px_PW.br (fun c0 => ?_) (fun c0 => ?_)
    · have c0 : (nI P) ≤ (nI k) := of_decide_eq_true c0
      have c0 : P ≤ k := by exact (nI_leI (a := P) (b := k) (by omega) (by omega)).mp c0
      obtain rfl : m = 0 := by omega
      exact H _
    · have c0 : ¬ ((nI P) ≤ (nI k)) := of_decide_eq_false c0
      have c0 : ¬ (P ≤ k) := fun q => c0 (by exact (nI_leI (a := P) (b := k) (by omega) (by omega)).mpr q)
      obtain ⟨m2, rfl⟩ : ∃ m2, m = m2 + 1 := ⟨m - 1, by omega⟩
      refine px_PW.steps kt_144.2 4 rfl ?_
      refine px_PW.aldN kt_144.2 rfl rfl (n := k) (rfl) (by omega) ?_
      rw [show (va_up (va_up (va_up F 0 f) 8 A) 9 B) 9 k = Br k from (hAB k (by omega)).2]
      refine px_PW.steps kt_144.2 3 rfl ?_
      refine px_PW.steps kt_144.2 1 rfl ?_
      refine px_PW.steps kt_144.2 1 rfl ?_
      refine px_PW.br (fun c1 => ?_) (fun c1 => ?_)
      · have c1 : (f 1) ≤ (Br k) := of_decide_eq_true c1
        refine px_PW.steps kt_144.2 5 rfl ?_
        have e0 : zz_cnt (fun k => decide (¬ (f 1 ≤ Br k))) (m2 + 1) k n = zz_cnt (fun k => decide (¬ (f 1 ≤ Br k))) m2 (k + 1) n := congrArg (zz_cnt (fun k => decide (¬ (f 1 ≤ Br k))) m2 (k + 1)) (if_neg (fun h => (fun q : ¬ (f 1 ≤ Br k) => q c1) (of_decide_eq_true h)))
        have g := cuts_loop hP hAB (Z := Z) (f := f) (F := F) (Q := Q) m2 (k + 1) n (by omega) (fun k9 => by have h := H k9; rw [e0] at h; exact h)
        refine px_PW.lc (lv' := [some (.ref 1000), some (.int (nI n)), some (.int (nI (k + 1)))]) (show ([some (.ref 1000), some (.int ((nI n) + 0)), some (.int ((nI k) + 1))] : px_L) = _ from by rw [← nI_succ k, Int32.add_zero]) ?_
        exact g
      · have c1 : ¬ ((f 1) ≤ (Br k)) := of_decide_eq_false c1
        refine px_PW.steps kt_144.2 6 rfl ?_
        have e0 : zz_cnt (fun k => decide (¬ (f 1 ≤ Br k))) (m2 + 1) k n = zz_cnt (fun k => decide (¬ (f 1 ≤ Br k))) m2 (k + 1) (n + 1) := congrArg (zz_cnt (fun k => decide (¬ (f 1 ≤ Br k))) m2 (k + 1)) (if_pos (decide_eq_true (show ¬ (f 1 ≤ Br k) from c1)))
        have g := cuts_loop hP hAB (Z := Z) (f := f) (F := F) (Q := Q) m2 (k + 1) (n + 1) (by omega) (fun k9 => by have h := H k9; rw [e0] at h; exact h)
        refine px_PW.lc (lv' := [some (.ref 1000), some (.int (nI (n + 1))), some (.int (nI (k + 1)))]) (show ([some (.ref 1000), some (.int ((nI n) + 1)), some (.int ((nI k) + 1))] : px_L) = _ from by rw [← nI_succ k, ← nI_succ n]) ?_
        exact g
theorem mm_cuts {Z f A B : Nat → Int32} {F : Nat → Nat → Int32} {P : Nat} {Ar Br : Nat → Int32} (hP : P ≤ 100) (hAB : ∀ j : Nat, j < P → A j = Ar j ∧ B j = Br j)  : px_PM 1 144 [.ref 1000] ([], px_MH (upd Z 5 (nI P)) (va_up (va_up (va_up F 0 f) 8 A) 9 B)) (fun r h' => r = some (.int (nI (zz_cnt (fun k => decide (¬ (f 1 ≤ Br k))) (P) 0 0))) ∧ h' = ([], px_MH (upd Z 5 (nI P)) (va_up (va_up (va_up F 0 f) 8 A) 9 B))) := by
  refine px_PM.start (nL := 3) (code := pc_144) rfl rfl ?_
  refine px_PW.steps kt_144.2 4 rfl ?_
  refine cuts_loop hP hAB (P) 0 0 (by omega) (fun k => ?_)
  refine px_PW.steps kt_144.2 1 rfl ?_
  exact px_PW.ret kt_144.2 rfl rfl ⟨rfl, rfl⟩
theorem halves_loop {Z f A B : Nat → Int32} {F : Nat → Nat → Int32} {P : Nat} {Ar Br : Nat → Int32} (hP : P ≤ 100) (hAB : ∀ j : Nat, j < P → A j = Ar j ∧ B j = Br j)  {Q : Option Value → px_H → Prop} : ∀ (m k1 n : Nat), k1 + m = P → (∀ k : Nat, px_PW 0 pc_145 Q 45 [some (.ref 1000), some (.int (nI (zz_cnt (fun k => decide (¬ (f 1 < 2 * Br k + 3))) m k1 n))), some (.int (nI k))] [] ([], px_MH (upd Z 5 (nI P)) (va_up (va_up (va_up F 0 f) 8 A) 9 B))) → px_PW 0 pc_145 Q 4 [some (.ref 1000), some (.int (nI n)), some (.int (nI k1))] [] ([], px_MH (upd Z 5 (nI P)) (va_up (va_up (va_up F 0 f) 8 A) 9 B))
  | m, k, n, hk, H => by
    refine px_PW.steps kt_145.2 4 rfl ?_
    refine px_PW.br (fun c0 => ?_) (fun c0 => ?_)
    · have c0 : (nI P) ≤ (nI k) := of_decide_eq_true c0
      have c0 : P ≤ k := by exact (nI_leI (a := P) (b := k) (by omega) (by omega)).mp c0
      obtain rfl : m = 0 := by omega
      exact H _
    · have c0 : ¬ ((nI P) ≤ (nI k)) := of_decide_eq_false c0
      have c0 : ¬ (P ≤ k) := fun q => c0 (by exact (nI_leI (a := P) (b := k) (by omega) (by omega)).mpr q)
      obtain ⟨m2, rfl⟩ : ∃ m2, m = m2 + 1 := ⟨m - 1, by omega⟩
      refine px_PW.steps kt_145.2 5 rfl ?_
      refine px_PW.aldN kt_145.2 rfl rfl (n := k) (rfl) (by omega) ?_
      rw [show (va_up (va_up (va_up F 0 f) 8 A) 9 B) 9 k = Br k from (hAB k (by omega)).2]
      refine px_PW.steps kt_145.2 6 rfl ?_
      refine px_PW.steps kt_145.2 1 rfl ?_
      refine px_PW.steps kt_145.2 1 rfl ?_
      refine px_PW.br (fun c1 => ?_) (fun c1 => ?_)
      · have c1 : (f 1) < ((2 * (Br k)) + 3) := of_decide_eq_true c1
        refine px_PW.steps kt_145.2 5 rfl ?_
        have e0 : zz_cnt (fun k => decide (¬ (f 1 < 2 * Br k + 3))) (m2 + 1) k n = zz_cnt (fun k => decide (¬ (f 1 < 2 * Br k + 3))) m2 (k + 1) n := congrArg (zz_cnt (fun k => decide (¬ (f 1 < 2 * Br k + 3))) m2 (k + 1)) (if_neg (fun h => (fun q : ¬ (f 1 < 2 * Br k + 3) => q c1) (of_decide_eq_true h)))
        have g := halves_loop hP hAB (Z := Z) (f := f) (F := F) (Q := Q) m2 (k + 1) n (by omega) (fun k9 => by have h := H k9; rw [e0] at h; exact h)
        refine px_PW.lc (lv' := [some (.ref 1000), some (.int (nI n)), some (.int (nI (k + 1)))]) (show ([some (.ref 1000), some (.int ((nI n) + 0)), some (.int ((nI k) + 1))] : px_L) = _ from by rw [← nI_succ k, Int32.add_zero]) ?_
        exact g
      · have c1 : ¬ ((f 1) < ((2 * (Br k)) + 3)) := of_decide_eq_false c1
        refine px_PW.steps kt_145.2 6 rfl ?_
        have e0 : zz_cnt (fun k => decide (¬ (f 1 < 2 * Br k + 3))) (m2 + 1) k n = zz_cnt (fun k => decide (¬ (f 1 < 2 * Br k + 3))) m2 (k + 1) (n + 1) := congrArg (zz_cnt (fun k => decide (¬ (f 1 < 2 * Br k + 3))) m2 (k + 1)) (if_pos (decide_eq_true (show ¬ (f 1 < 2 * Br k + 3) from c1)))
        have g := halves_loop hP hAB (Z := Z) (f := f) (F := F) (Q := Q) m2 (k + 1) (n + 1) (by omega) (fun k9 => by have h := H k9; rw [e0] at h; exact h)
        refine px_PW.lc (lv' := [some (.ref 1000), some (.int (nI (n + 1))), some (.int (nI (k + 1)))]) (show ([some (.ref 1000), some (.int ((nI n) + 1)), some (.int ((nI k) + 1))] : px_L) = _ from by rw [← nI_succ k, ← nI_succ n]) ?_
        exact g
theorem mm_halves {Z f A B : Nat → Int32} {F : Nat → Nat → Int32} {P : Nat} {Ar Br : Nat → Int32} (hP : P ≤ 100) (hAB : ∀ j : Nat, j < P → A j = Ar j ∧ B j = Br j)  : px_PM 1 145 [.ref 1000] ([], px_MH (upd Z 5 (nI P)) (va_up (va_up (va_up F 0 f) 8 A) 9 B)) (fun r h' => r = some (.int (nI (zz_cnt (fun k => decide (¬ (f 1 < 2 * Br k + 3))) (P) 0 0))) ∧ h' = ([], px_MH (upd Z 5 (nI P)) (va_up (va_up (va_up F 0 f) 8 A) 9 B))) := by
  refine px_PM.start (nL := 3) (code := pc_145) rfl rfl ?_
  refine px_PW.steps kt_145.2 4 rfl ?_
  refine halves_loop hP hAB (P) 0 0 (by omega) (fun k => ?_)
  refine px_PW.steps kt_145.2 1 rfl ?_
  exact px_PW.ret kt_145.2 rfl rfl ⟨rfl, rfl⟩
theorem joints_loop {Z f A B : Nat → Int32} {F : Nat → Nat → Int32} {P : Nat} {Ar Br : Nat → Int32} (hP : P ≤ 100) (hAB : ∀ j : Nat, j < P → A j = Ar j ∧ B j = Br j) {from_ : Int32} {to : Int32} {Q : Option Value → px_H → Prop} : ∀ (m k1 n : Nat), k1 + m = P - 1 → (∀ k : Nat, px_PW 0 pc_148 Q 62 [some (.ref 1000), some (.int from_), some (.int to), some (.int (nI (zz_cnt (fun k => decide (¬ (to < Ar k + Br k) ∧ ¬ (Ar (k + 1) < from_))) m k1 n))), some (.int (nI k))] [] ([], px_MH (upd Z 5 (nI P)) (va_up (va_up (va_up F 0 f) 8 A) 9 B))) → px_PW 0 pc_148 Q 5 [some (.ref 1000), some (.int from_), some (.int to), some (.int (nI n)), some (.int (nI k1))] [] ([], px_MH (upd Z 5 (nI P)) (va_up (va_up (va_up F 0 f) 8 A) 9 B))
  | m, k, n, hk, H => by
    refine px_PW.steps kt_148.2 6 rfl ?_
    refine px_PW.br (fun c0 => ?_) (fun c0 => ?_)
    · have c0 : (nI P) ≤ ((nI k) + 1) := of_decide_eq_true c0
      have c0 : P ≤ k + 1 := by rw [← nI_succ] at c0; exact (nI_leI (a := P) (b := k + 1) (by omega) (by omega)).mp c0
      obtain rfl : m = 0 := by omega
      exact H _
    · have c0 : ¬ ((nI P) ≤ ((nI k) + 1)) := of_decide_eq_false c0
      have c0 : ¬ (P ≤ k + 1) := fun q => c0 (by rw [← nI_succ]; exact (nI_leI (a := P) (b := k + 1) (by omega) (by omega)).mpr q)
      obtain ⟨m2, rfl⟩ : ∃ m2, m = m2 + 1 := ⟨m - 1, by omega⟩
      refine px_PW.steps kt_148.2 4 rfl ?_
      refine px_PW.aldN kt_148.2 rfl rfl (n := k) (rfl) (by omega) ?_
      rw [show (va_up (va_up (va_up F 0 f) 8 A) 9 B) 8 k = Ar k from (hAB k (by omega)).1]
      refine px_PW.steps kt_148.2 3 rfl ?_
      refine px_PW.aldN kt_148.2 rfl rfl (n := k) (rfl) (by omega) ?_
      rw [show (va_up (va_up (va_up F 0 f) 8 A) 9 B) 9 k = Br k from (hAB k (by omega)).2]
      refine px_PW.steps kt_148.2 3 rfl ?_
      refine px_PW.br (fun c1 => ?_) (fun c1 => ?_)
      · have c1 : to < ((Ar k) + (Br k)) := of_decide_eq_true c1
        refine px_PW.steps kt_148.2 5 rfl ?_
        have e0 : zz_cnt (fun k => decide (¬ (to < Ar k + Br k) ∧ ¬ (Ar (k + 1) < from_))) (m2 + 1) k n = zz_cnt (fun k => decide (¬ (to < Ar k + Br k) ∧ ¬ (Ar (k + 1) < from_))) m2 (k + 1) n := congrArg (zz_cnt (fun k => decide (¬ (to < Ar k + Br k) ∧ ¬ (Ar (k + 1) < from_))) m2 (k + 1)) (if_neg (fun h => (fun q : ¬ (to < Ar k + Br k) ∧ ¬ (Ar (k + 1) < from_) => q.1 c1) (of_decide_eq_true h)))
        have g := joints_loop hP hAB (Z := Z) (f := f) (F := F) (from_ := from_) (to := to) (Q := Q) m2 (k + 1) n (by omega) (fun k9 => by have h := H k9; rw [e0] at h; exact h)
        refine px_PW.lc (lv' := [some (.ref 1000), some (.int from_), some (.int to), some (.int (nI n)), some (.int (nI (k + 1)))]) (show ([some (.ref 1000), some (.int from_), some (.int to), some (.int ((nI n) + 0)), some (.int ((nI k) + 1))] : px_L) = _ from by rw [← nI_succ k, Int32.add_zero]) ?_
        exact g
      · have c1 : ¬ (to < ((Ar k) + (Br k))) := of_decide_eq_false c1
        refine px_PW.steps kt_148.2 5 rfl ?_
        refine px_PW.aldN kt_148.2 rfl rfl (n := k + 1) ((nI_succ k).symm) (by omega) ?_
        rw [show (va_up (va_up (va_up F 0 f) 8 A) 9 B) 8 (k + 1) = Ar (k + 1) from (hAB (k + 1) (by omega)).1]
        refine px_PW.steps kt_148.2 2 rfl ?_
        refine px_PW.br (fun c2 => ?_) (fun c2 => ?_)
        · have c2 : (Ar (k + 1)) < from_ := of_decide_eq_true c2
          refine px_PW.steps kt_148.2 5 rfl ?_
          have e0 : zz_cnt (fun k => decide (¬ (to < Ar k + Br k) ∧ ¬ (Ar (k + 1) < from_))) (m2 + 1) k n = zz_cnt (fun k => decide (¬ (to < Ar k + Br k) ∧ ¬ (Ar (k + 1) < from_))) m2 (k + 1) n := congrArg (zz_cnt (fun k => decide (¬ (to < Ar k + Br k) ∧ ¬ (Ar (k + 1) < from_))) m2 (k + 1)) (if_neg (fun h => (fun q : ¬ (to < Ar k + Br k) ∧ ¬ (Ar (k + 1) < from_) => q.2 c2) (of_decide_eq_true h)))
          have g := joints_loop hP hAB (Z := Z) (f := f) (F := F) (from_ := from_) (to := to) (Q := Q) m2 (k + 1) n (by omega) (fun k9 => by have h := H k9; rw [e0] at h; exact h)
          refine px_PW.lc (lv' := [some (.ref 1000), some (.int from_), some (.int to), some (.int (nI n)), some (.int (nI (k + 1)))]) (show ([some (.ref 1000), some (.int from_), some (.int to), some (.int ((nI n) + 0)), some (.int ((nI k) + 1))] : px_L) = _ from by rw [← nI_succ k, Int32.add_zero]) ?_
          exact g
        · have c2 : ¬ ((Ar (k + 1)) < from_) := of_decide_eq_false c2
          refine px_PW.steps kt_148.2 6 rfl ?_
          have e0 : zz_cnt (fun k => decide (¬ (to < Ar k + Br k) ∧ ¬ (Ar (k + 1) < from_))) (m2 + 1) k n = zz_cnt (fun k => decide (¬ (to < Ar k + Br k) ∧ ¬ (Ar (k + 1) < from_))) m2 (k + 1) (n + 1) := congrArg (zz_cnt (fun k => decide (¬ (to < Ar k + Br k) ∧ ¬ (Ar (k + 1) < from_))) m2 (k + 1)) (if_pos (decide_eq_true (show ¬ (to < Ar k + Br k) ∧ ¬ (Ar (k + 1) < from_) from ⟨c1, c2⟩)))
          have g := joints_loop hP hAB (Z := Z) (f := f) (F := F) (from_ := from_) (to := to) (Q := Q) m2 (k + 1) (n + 1) (by omega) (fun k9 => by have h := H k9; rw [e0] at h; exact h)
          refine px_PW.lc (lv' := [some (.ref 1000), some (.int from_), some (.int to), some (.int (nI (n + 1))), some (.int (nI (k + 1)))]) (show ([some (.ref 1000), some (.int from_), some (.int to), some (.int ((nI n) + 1)), some (.int ((nI k) + 1))] : px_L) = _ from by rw [← nI_succ k, ← nI_succ n]) ?_
          exact g
theorem mm_joints {Z f A B : Nat → Int32} {F : Nat → Nat → Int32} {P : Nat} {Ar Br : Nat → Int32} (hP : P ≤ 100) (hAB : ∀ j : Nat, j < P → A j = Ar j ∧ B j = Br j) (from_ : Int32) (to : Int32) : px_PM 1 148 [.ref 1000, .int from_, .int to] ([], px_MH (upd Z 5 (nI P)) (va_up (va_up (va_up F 0 f) 8 A) 9 B)) (fun r h' => r = some (.int (nI (zz_cnt (fun k => decide (¬ (to < Ar k + Br k) ∧ ¬ (Ar (k + 1) < from_))) (P - 1) 0 0))) ∧ h' = ([], px_MH (upd Z 5 (nI P)) (va_up (va_up (va_up F 0 f) 8 A) 9 B))) := by
  refine px_PM.start (nL := 5) (code := pc_148) rfl rfl ?_
  refine px_PW.steps kt_148.2 4 rfl ?_
  refine joints_loop hP hAB (P - 1) 0 0 (by omega) (fun k => ?_)
  refine px_PW.steps kt_148.2 1 rfl ?_
  exact px_PW.ret kt_148.2 rfl rfl ⟨rfl, rfl⟩
theorem touches_loop {Z f A B : Nat → Int32} {F : Nat → Nat → Int32} {P : Nat} {Ar Br : Nat → Int32} (hP : P ≤ 100) (hAB : ∀ j : Nat, j < P → A j = Ar j ∧ B j = Br j) {from_ : Int32} {to : Int32} {Q : Option Value → px_H → Prop} : ∀ (m k1 n : Nat), k1 + m = P → (∀ k : Nat, px_PW 0 pc_151 Q 58 [some (.ref 1000), some (.int from_), some (.int to), some (.int (nI (zz_cnt (fun k => decide (¬ (to ≤ Ar k) ∧ ¬ (Ar k + Br k ≤ from_))) m k1 n))), some (.int (nI k))] [] ([], px_MH (upd Z 5 (nI P)) (va_up (va_up (va_up F 0 f) 8 A) 9 B))) → px_PW 0 pc_151 Q 5 [some (.ref 1000), some (.int from_), some (.int to), some (.int (nI n)), some (.int (nI k1))] [] ([], px_MH (upd Z 5 (nI P)) (va_up (va_up (va_up F 0 f) 8 A) 9 B))
  | m, k, n, hk, H => by
    refine px_PW.steps kt_151.2 4 rfl ?_
    refine px_PW.br (fun c0 => ?_) (fun c0 => ?_)
    · have c0 : (nI P) ≤ (nI k) := of_decide_eq_true c0
      have c0 : P ≤ k := by exact (nI_leI (a := P) (b := k) (by omega) (by omega)).mp c0
      obtain rfl : m = 0 := by omega
      exact H _
    · have c0 : ¬ ((nI P) ≤ (nI k)) := of_decide_eq_false c0
      have c0 : ¬ (P ≤ k) := fun q => c0 (by exact (nI_leI (a := P) (b := k) (by omega) (by omega)).mpr q)
      obtain ⟨m2, rfl⟩ : ∃ m2, m = m2 + 1 := ⟨m - 1, by omega⟩
      refine px_PW.steps kt_151.2 4 rfl ?_
      refine px_PW.aldN kt_151.2 rfl rfl (n := k) (rfl) (by omega) ?_
      rw [show (va_up (va_up (va_up F 0 f) 8 A) 9 B) 8 k = Ar k from (hAB k (by omega)).1]
      refine px_PW.steps kt_151.2 2 rfl ?_
      refine px_PW.br (fun c1 => ?_) (fun c1 => ?_)
      · have c1 : to ≤ (Ar k) := of_decide_eq_true c1
        refine px_PW.steps kt_151.2 5 rfl ?_
        have e0 : zz_cnt (fun k => decide (¬ (to ≤ Ar k) ∧ ¬ (Ar k + Br k ≤ from_))) (m2 + 1) k n = zz_cnt (fun k => decide (¬ (to ≤ Ar k) ∧ ¬ (Ar k + Br k ≤ from_))) m2 (k + 1) n := congrArg (zz_cnt (fun k => decide (¬ (to ≤ Ar k) ∧ ¬ (Ar k + Br k ≤ from_))) m2 (k + 1)) (if_neg (fun h => (fun q : ¬ (to ≤ Ar k) ∧ ¬ (Ar k + Br k ≤ from_) => q.1 c1) (of_decide_eq_true h)))
        have g := touches_loop hP hAB (Z := Z) (f := f) (F := F) (from_ := from_) (to := to) (Q := Q) m2 (k + 1) n (by omega) (fun k9 => by have h := H k9; rw [e0] at h; exact h)
        refine px_PW.lc (lv' := [some (.ref 1000), some (.int from_), some (.int to), some (.int (nI n)), some (.int (nI (k + 1)))]) (show ([some (.ref 1000), some (.int from_), some (.int to), some (.int ((nI n) + 0)), some (.int ((nI k) + 1))] : px_L) = _ from by rw [← nI_succ k, Int32.add_zero]) ?_
        exact g
      · have c1 : ¬ (to ≤ (Ar k)) := of_decide_eq_false c1
        refine px_PW.steps kt_151.2 3 rfl ?_
        refine px_PW.aldN kt_151.2 rfl rfl (n := k) (rfl) (by omega) ?_
        rw [show (va_up (va_up (va_up F 0 f) 8 A) 9 B) 8 k = Ar k from (hAB k (by omega)).1]
        refine px_PW.steps kt_151.2 3 rfl ?_
        refine px_PW.aldN kt_151.2 rfl rfl (n := k) (rfl) (by omega) ?_
        rw [show (va_up (va_up (va_up F 0 f) 8 A) 9 B) 9 k = Br k from (hAB k (by omega)).2]
        refine px_PW.steps kt_151.2 3 rfl ?_
        refine px_PW.br (fun c2 => ?_) (fun c2 => ?_)
        · have c2 : ((Ar k) + (Br k)) ≤ from_ := of_decide_eq_true c2
          refine px_PW.steps kt_151.2 5 rfl ?_
          have e0 : zz_cnt (fun k => decide (¬ (to ≤ Ar k) ∧ ¬ (Ar k + Br k ≤ from_))) (m2 + 1) k n = zz_cnt (fun k => decide (¬ (to ≤ Ar k) ∧ ¬ (Ar k + Br k ≤ from_))) m2 (k + 1) n := congrArg (zz_cnt (fun k => decide (¬ (to ≤ Ar k) ∧ ¬ (Ar k + Br k ≤ from_))) m2 (k + 1)) (if_neg (fun h => (fun q : ¬ (to ≤ Ar k) ∧ ¬ (Ar k + Br k ≤ from_) => q.2 c2) (of_decide_eq_true h)))
          have g := touches_loop hP hAB (Z := Z) (f := f) (F := F) (from_ := from_) (to := to) (Q := Q) m2 (k + 1) n (by omega) (fun k9 => by have h := H k9; rw [e0] at h; exact h)
          refine px_PW.lc (lv' := [some (.ref 1000), some (.int from_), some (.int to), some (.int (nI n)), some (.int (nI (k + 1)))]) (show ([some (.ref 1000), some (.int from_), some (.int to), some (.int ((nI n) + 0)), some (.int ((nI k) + 1))] : px_L) = _ from by rw [← nI_succ k, Int32.add_zero]) ?_
          exact g
        · have c2 : ¬ (((Ar k) + (Br k)) ≤ from_) := of_decide_eq_false c2
          refine px_PW.steps kt_151.2 6 rfl ?_
          have e0 : zz_cnt (fun k => decide (¬ (to ≤ Ar k) ∧ ¬ (Ar k + Br k ≤ from_))) (m2 + 1) k n = zz_cnt (fun k => decide (¬ (to ≤ Ar k) ∧ ¬ (Ar k + Br k ≤ from_))) m2 (k + 1) (n + 1) := congrArg (zz_cnt (fun k => decide (¬ (to ≤ Ar k) ∧ ¬ (Ar k + Br k ≤ from_))) m2 (k + 1)) (if_pos (decide_eq_true (show ¬ (to ≤ Ar k) ∧ ¬ (Ar k + Br k ≤ from_) from ⟨c1, c2⟩)))
          have g := touches_loop hP hAB (Z := Z) (f := f) (F := F) (from_ := from_) (to := to) (Q := Q) m2 (k + 1) (n + 1) (by omega) (fun k9 => by have h := H k9; rw [e0] at h; exact h)
          refine px_PW.lc (lv' := [some (.ref 1000), some (.int from_), some (.int to), some (.int (nI (n + 1))), some (.int (nI (k + 1)))]) (show ([some (.ref 1000), some (.int from_), some (.int to), some (.int ((nI n) + 1)), some (.int ((nI k) + 1))] : px_L) = _ from by rw [← nI_succ k, ← nI_succ n]) ?_
          exact g
theorem mm_touches {Z f A B : Nat → Int32} {F : Nat → Nat → Int32} {P : Nat} {Ar Br : Nat → Int32} (hP : P ≤ 100) (hAB : ∀ j : Nat, j < P → A j = Ar j ∧ B j = Br j) (from_ : Int32) (to : Int32) : px_PM 1 151 [.ref 1000, .int from_, .int to] ([], px_MH (upd Z 5 (nI P)) (va_up (va_up (va_up F 0 f) 8 A) 9 B)) (fun r h' => r = some (.int (nI (zz_cnt (fun k => decide (¬ (to ≤ Ar k) ∧ ¬ (Ar k + Br k ≤ from_))) (P) 0 0))) ∧ h' = ([], px_MH (upd Z 5 (nI P)) (va_up (va_up (va_up F 0 f) 8 A) 9 B))) := by
  refine px_PM.start (nL := 5) (code := pc_151) rfl rfl ?_
  refine px_PW.steps kt_151.2 4 rfl ?_
  refine touches_loop hP hAB (P) 0 0 (by omega) (fun k => ?_)
  refine px_PW.steps kt_151.2 1 rfl ?_
  exact px_PW.ret kt_151.2 rfl rfl ⟨rfl, rfl⟩
theorem hides_loop {Z f A B : Nat → Int32} {F : Nat → Nat → Int32} {P : Nat} {Ar Br : Nat → Int32} (hP : P ≤ 100) (hAB : ∀ j : Nat, j < P → A j = Ar j ∧ B j = Br j) {from_ : Int32} {to : Int32} {Q : Option Value → px_H → Prop} : ∀ (m k1 n : Nat), k1 + m = P → (∀ k : Nat, px_PW 0 pc_152 Q 74 [some (.ref 1000), some (.int from_), some (.int to), some (.int (nI (zz_cnt (fun k => decide (¬ (f 1 ≤ Br k) ∧ ¬ (Ar k < from_) ∧ ¬ (to < Ar k + Br k))) m k1 n))), some (.int (nI k))] [] ([], px_MH (upd Z 5 (nI P)) (va_up (va_up (va_up F 0 f) 8 A) 9 B))) → px_PW 0 pc_152 Q 5 [some (.ref 1000), some (.int from_), some (.int to), some (.int (nI n)), some (.int (nI k1))] [] ([], px_MH (upd Z 5 (nI P)) (va_up (va_up (va_up F 0 f) 8 A) 9 B))
  | m, k, n, hk, H => by
    refine px_PW.steps kt_152.2 4 rfl ?_
    refine px_PW.br (fun c0 => ?_) (fun c0 => ?_)
    · have c0 : (nI P) ≤ (nI k) := of_decide_eq_true c0
      have c0 : P ≤ k := by exact (nI_leI (a := P) (b := k) (by omega) (by omega)).mp c0
      obtain rfl : m = 0 := by omega
      exact H _
    · have c0 : ¬ ((nI P) ≤ (nI k)) := of_decide_eq_false c0
      have c0 : ¬ (P ≤ k) := fun q => c0 (by exact (nI_leI (a := P) (b := k) (by omega) (by omega)).mpr q)
      obtain ⟨m2, rfl⟩ : ∃ m2, m = m2 + 1 := ⟨m - 1, by omega⟩
      refine px_PW.steps kt_152.2 4 rfl ?_
      refine px_PW.aldN kt_152.2 rfl rfl (n := k) (rfl) (by omega) ?_
      rw [show (va_up (va_up (va_up F 0 f) 8 A) 9 B) 9 k = Br k from (hAB k (by omega)).2]
      refine px_PW.steps kt_152.2 3 rfl ?_
      refine px_PW.steps kt_152.2 1 rfl ?_
      refine px_PW.steps kt_152.2 1 rfl ?_
      refine px_PW.br (fun c1 => ?_) (fun c1 => ?_)
      · have c1 : (f 1) ≤ (Br k) := of_decide_eq_true c1
        refine px_PW.steps kt_152.2 5 rfl ?_
        have e0 : zz_cnt (fun k => decide (¬ (f 1 ≤ Br k) ∧ ¬ (Ar k < from_) ∧ ¬ (to < Ar k + Br k))) (m2 + 1) k n = zz_cnt (fun k => decide (¬ (f 1 ≤ Br k) ∧ ¬ (Ar k < from_) ∧ ¬ (to < Ar k + Br k))) m2 (k + 1) n := congrArg (zz_cnt (fun k => decide (¬ (f 1 ≤ Br k) ∧ ¬ (Ar k < from_) ∧ ¬ (to < Ar k + Br k))) m2 (k + 1)) (if_neg (fun h => (fun q : ¬ (f 1 ≤ Br k) ∧ ¬ (Ar k < from_) ∧ ¬ (to < Ar k + Br k) => q.1 c1) (of_decide_eq_true h)))
        have g := hides_loop hP hAB (Z := Z) (f := f) (F := F) (from_ := from_) (to := to) (Q := Q) m2 (k + 1) n (by omega) (fun k9 => by have h := H k9; rw [e0] at h; exact h)
        refine px_PW.lc (lv' := [some (.ref 1000), some (.int from_), some (.int to), some (.int (nI n)), some (.int (nI (k + 1)))]) (show ([some (.ref 1000), some (.int from_), some (.int to), some (.int ((nI n) + 0)), some (.int ((nI k) + 1))] : px_L) = _ from by rw [← nI_succ k, Int32.add_zero]) ?_
        exact g
      · have c1 : ¬ ((f 1) ≤ (Br k)) := of_decide_eq_false c1
        refine px_PW.steps kt_152.2 3 rfl ?_
        refine px_PW.aldN kt_152.2 rfl rfl (n := k) (rfl) (by omega) ?_
        rw [show (va_up (va_up (va_up F 0 f) 8 A) 9 B) 8 k = Ar k from (hAB k (by omega)).1]
        refine px_PW.steps kt_152.2 2 rfl ?_
        refine px_PW.br (fun c2 => ?_) (fun c2 => ?_)
        · have c2 : (Ar k) < from_ := of_decide_eq_true c2
          refine px_PW.steps kt_152.2 5 rfl ?_
          have e0 : zz_cnt (fun k => decide (¬ (f 1 ≤ Br k) ∧ ¬ (Ar k < from_) ∧ ¬ (to < Ar k + Br k))) (m2 + 1) k n = zz_cnt (fun k => decide (¬ (f 1 ≤ Br k) ∧ ¬ (Ar k < from_) ∧ ¬ (to < Ar k + Br k))) m2 (k + 1) n := congrArg (zz_cnt (fun k => decide (¬ (f 1 ≤ Br k) ∧ ¬ (Ar k < from_) ∧ ¬ (to < Ar k + Br k))) m2 (k + 1)) (if_neg (fun h => (fun q : ¬ (f 1 ≤ Br k) ∧ ¬ (Ar k < from_) ∧ ¬ (to < Ar k + Br k) => q.2.1 c2) (of_decide_eq_true h)))
          have g := hides_loop hP hAB (Z := Z) (f := f) (F := F) (from_ := from_) (to := to) (Q := Q) m2 (k + 1) n (by omega) (fun k9 => by have h := H k9; rw [e0] at h; exact h)
          refine px_PW.lc (lv' := [some (.ref 1000), some (.int from_), some (.int to), some (.int (nI n)), some (.int (nI (k + 1)))]) (show ([some (.ref 1000), some (.int from_), some (.int to), some (.int ((nI n) + 0)), some (.int ((nI k) + 1))] : px_L) = _ from by rw [← nI_succ k, Int32.add_zero]) ?_
          exact g
        · have c2 : ¬ ((Ar k) < from_) := of_decide_eq_false c2
          refine px_PW.steps kt_152.2 3 rfl ?_
          refine px_PW.aldN kt_152.2 rfl rfl (n := k) (rfl) (by omega) ?_
          rw [show (va_up (va_up (va_up F 0 f) 8 A) 9 B) 8 k = Ar k from (hAB k (by omega)).1]
          refine px_PW.steps kt_152.2 3 rfl ?_
          refine px_PW.aldN kt_152.2 rfl rfl (n := k) (rfl) (by omega) ?_
          rw [show (va_up (va_up (va_up F 0 f) 8 A) 9 B) 9 k = Br k from (hAB k (by omega)).2]
          refine px_PW.steps kt_152.2 3 rfl ?_
          refine px_PW.br (fun c3 => ?_) (fun c3 => ?_)
          · have c3 : to < ((Ar k) + (Br k)) := of_decide_eq_true c3
            refine px_PW.steps kt_152.2 5 rfl ?_
            have e0 : zz_cnt (fun k => decide (¬ (f 1 ≤ Br k) ∧ ¬ (Ar k < from_) ∧ ¬ (to < Ar k + Br k))) (m2 + 1) k n = zz_cnt (fun k => decide (¬ (f 1 ≤ Br k) ∧ ¬ (Ar k < from_) ∧ ¬ (to < Ar k + Br k))) m2 (k + 1) n := congrArg (zz_cnt (fun k => decide (¬ (f 1 ≤ Br k) ∧ ¬ (Ar k < from_) ∧ ¬ (to < Ar k + Br k))) m2 (k + 1)) (if_neg (fun h => (fun q : ¬ (f 1 ≤ Br k) ∧ ¬ (Ar k < from_) ∧ ¬ (to < Ar k + Br k) => q.2.2 c3) (of_decide_eq_true h)))
            have g := hides_loop hP hAB (Z := Z) (f := f) (F := F) (from_ := from_) (to := to) (Q := Q) m2 (k + 1) n (by omega) (fun k9 => by have h := H k9; rw [e0] at h; exact h)
            refine px_PW.lc (lv' := [some (.ref 1000), some (.int from_), some (.int to), some (.int (nI n)), some (.int (nI (k + 1)))]) (show ([some (.ref 1000), some (.int from_), some (.int to), some (.int ((nI n) + 0)), some (.int ((nI k) + 1))] : px_L) = _ from by rw [← nI_succ k, Int32.add_zero]) ?_
            exact g
          · have c3 : ¬ (to < ((Ar k) + (Br k))) := of_decide_eq_false c3
            refine px_PW.steps kt_152.2 6 rfl ?_
            have e0 : zz_cnt (fun k => decide (¬ (f 1 ≤ Br k) ∧ ¬ (Ar k < from_) ∧ ¬ (to < Ar k + Br k))) (m2 + 1) k n = zz_cnt (fun k => decide (¬ (f 1 ≤ Br k) ∧ ¬ (Ar k < from_) ∧ ¬ (to < Ar k + Br k))) m2 (k + 1) (n + 1) := congrArg (zz_cnt (fun k => decide (¬ (f 1 ≤ Br k) ∧ ¬ (Ar k < from_) ∧ ¬ (to < Ar k + Br k))) m2 (k + 1)) (if_pos (decide_eq_true (show ¬ (f 1 ≤ Br k) ∧ ¬ (Ar k < from_) ∧ ¬ (to < Ar k + Br k) from ⟨c1, c2, c3⟩)))
            have g := hides_loop hP hAB (Z := Z) (f := f) (F := F) (from_ := from_) (to := to) (Q := Q) m2 (k + 1) (n + 1) (by omega) (fun k9 => by have h := H k9; rw [e0] at h; exact h)
            refine px_PW.lc (lv' := [some (.ref 1000), some (.int from_), some (.int to), some (.int (nI (n + 1))), some (.int (nI (k + 1)))]) (show ([some (.ref 1000), some (.int from_), some (.int to), some (.int ((nI n) + 1)), some (.int ((nI k) + 1))] : px_L) = _ from by rw [← nI_succ k, ← nI_succ n]) ?_
            exact g
theorem mm_hides {Z f A B : Nat → Int32} {F : Nat → Nat → Int32} {P : Nat} {Ar Br : Nat → Int32} (hP : P ≤ 100) (hAB : ∀ j : Nat, j < P → A j = Ar j ∧ B j = Br j) (from_ : Int32) (to : Int32) : px_PM 1 152 [.ref 1000, .int from_, .int to] ([], px_MH (upd Z 5 (nI P)) (va_up (va_up (va_up F 0 f) 8 A) 9 B)) (fun r h' => r = some (.int (nI (zz_cnt (fun k => decide (¬ (f 1 ≤ Br k) ∧ ¬ (Ar k < from_) ∧ ¬ (to < Ar k + Br k))) (P) 0 0))) ∧ h' = ([], px_MH (upd Z 5 (nI P)) (va_up (va_up (va_up F 0 f) 8 A) 9 B))) := by
  refine px_PM.start (nL := 5) (code := pc_152) rfl rfl ?_
  refine px_PW.steps kt_152.2 4 rfl ?_
  refine hides_loop hP hAB (P) 0 0 (by omega) (fun k => ?_)
  refine px_PW.steps kt_152.2 1 rfl ?_
  exact px_PW.ret kt_152.2 rfl rfl ⟨rfl, rfl⟩
theorem nar_loop {Z f A B : Nat → Int32} {F : Nat → Nat → Int32} {P : Nat} {Ar Br : Nat → Int32} (hP : P ≤ 100) (hAB : ∀ j : Nat, j < P → A j = Ar j ∧ B j = Br j) {Q : Option Value → px_H → Prop} : ∀ (m k : Nat) (a : Int32), k + m = P → (∀ k2 : Nat, px_PW 0 pc_146 Q 44 [some (.ref 1000), some (.int (zz_mn Br m k a)), some (.int (nI k2))] [] ([], px_MH (upd Z 5 (nI P)) (va_up (va_up (va_up F 0 f) 8 A) 9 B))) → px_PW 0 pc_146 Q 9 [some (.ref 1000), some (.int a), some (.int (nI k))] [] ([], px_MH (upd Z 5 (nI P)) (va_up (va_up (va_up F 0 f) 8 A) 9 B))
  | m, k, a, hk, H => by
    refine px_PW.steps kt_146.2 4 rfl ?_
    refine px_PW.br (fun c0 => ?_) (fun c0 => ?_)
    · have c0 : (nI P) ≤ (nI k) := of_decide_eq_true c0
      have c0 : P ≤ k := (nI_leI (a := P) (b := k) (by omega) (by omega)).mp c0
      obtain rfl : m = 0 := by omega
      exact H k
    · have c0 : ¬ ((nI P) ≤ (nI k)) := of_decide_eq_false c0
      have c0 : ¬ (P ≤ k) := fun q => c0 ((nI_leI (a := P) (b := k) (by omega) (by omega)).mpr q)
      obtain ⟨m2, rfl⟩ : ∃ m2, m = m2 + 1 := ⟨m - 1, by omega⟩
      refine px_PW.steps kt_146.2 3 rfl ?_
      refine px_PW.aldN kt_146.2 rfl rfl (n := k) (rfl) (by omega) ?_
      rw [show (va_up (va_up (va_up F 0 f) 8 A) 9 B) 9 k = Br k from (hAB k (by omega)).2]
      refine px_PW.steps kt_146.2 2 rfl ?_
      refine px_PW.br (fun c1 => ?_) (fun c1 => ?_)
      · have c1 : a ≤ (Br k) := of_decide_eq_true c1
        refine px_PW.steps kt_146.2 4 rfl ?_
        have e0 : zz_mn Br (m2 + 1) k a = zz_mn Br m2 (k + 1) a := congrArg (zz_mn Br m2 (k + 1)) (if_pos c1)
        have g := nar_loop hP hAB (Z := Z) (f := f) (F := F) (Q := Q) m2 (k + 1) a (by omega) (fun k9 => by have h := H k9; rw [e0] at h; exact h)
        rw [nI_succ k] at g
        exact g
      · have c1 : ¬ (a ≤ (Br k)) := of_decide_eq_false c1
        refine px_PW.steps kt_146.2 3 rfl ?_
        refine px_PW.aldN kt_146.2 rfl rfl (n := k) (rfl) (by omega) ?_
        rw [show (va_up (va_up (va_up F 0 f) 8 A) 9 B) 9 k = Br k from (hAB k (by omega)).2]
        refine px_PW.steps kt_146.2 4 rfl ?_
        have e0 : zz_mn Br (m2 + 1) k a = zz_mn Br m2 (k + 1) (Br k) := congrArg (zz_mn Br m2 (k + 1)) (if_neg c1)
        have g := nar_loop hP hAB (Z := Z) (f := f) (F := F) (Q := Q) m2 (k + 1) (Br k) (by omega) (fun k9 => by have h := H k9; rw [e0] at h; exact h)
        rw [nI_succ k] at g
        exact g
theorem mm_nar {Z f A B : Nat → Int32} {F : Nat → Nat → Int32} {P : Nat} {Ar Br : Nat → Int32} (hP : P ≤ 100) (hAB : ∀ j : Nat, j < P → A j = Ar j ∧ B j = Br j) (hP0 : 1 ≤ P) : px_PM 1 146 [.ref 1000] ([], px_MH (upd Z 5 (nI P)) (va_up (va_up (va_up F 0 f) 8 A) 9 B)) (fun r h' => r = some (.int (zz_mn Br (P - 1) 1 (Br 0))) ∧ h' = ([], px_MH (upd Z 5 (nI P)) (va_up (va_up (va_up F 0 f) 8 A) 9 B))) := by
  refine px_PM.start (nL := 3) (code := pc_146) rfl rfl ?_
  refine px_PW.steps kt_146.2 3 rfl ?_
  refine px_PW.aldN kt_146.2 rfl rfl (n := 0) rfl (by decide) ?_
  rw [show (va_up (va_up (va_up F 0 f) 8 A) 9 B) 9 0 = Br 0 from (hAB 0 (by omega)).2]
  refine px_PW.steps kt_146.2 3 rfl ?_
  refine nar_loop hP hAB (P - 1) 1 (Br 0) (by omega) (fun k2 => ?_)
  refine px_PW.steps kt_146.2 1 rfl ?_
  exact px_PW.ret kt_146.2 rfl rfl ⟨rfl, rfl⟩
theorem mm_ap (a b : Int32) (h : px_H) : px_PM 1 149 [.int a, .int b] h (fun r h' => r = some (.int (s_ap a b)) ∧ h' = h) := by
  refine px_PM.start (nL := 2) (code := pc_149) rfl rfl ?_
  refine px_PW.steps kt_149.2 3 rfl ?_
  refine px_PW.br (fun c0 => ?_) (fun c0 => ?_)
  · have c0 : b ≤ a := of_decide_eq_true c0
    refine px_PW.steps kt_149.2 3 rfl ?_
    refine px_PW.ret kt_149.2 rfl rfl ?_
    exact ⟨congrArg (fun z => some (Value.int z)) (show s_ap a b = (a - b) from if_pos c0).symm, rfl⟩
  · have c0 : ¬ (b ≤ a) := of_decide_eq_false c0
    refine px_PW.steps kt_149.2 4 rfl ?_
    refine px_PW.ret kt_149.2 rfl rfl ?_
    exact ⟨congrArg (fun z => some (Value.int z)) (show s_ap a b = (b - a) from if_neg c0).symm, rfl⟩
theorem gap_loop {Z f A B : Nat → Int32} {F : Nat → Nat → Int32} {P : Nat} {Ar Br : Nat → Int32} (hP : P ≤ 100) (hAB : ∀ j : Nat, j < P → A j = Ar j ∧ B j = Br j) {from_ to : Int32} {Q : Option Value → px_H → Prop} : ∀ (m k : Nat) (a : Int32) (o5 o6 : Option Value), k + m = P → (∀ (k2 : Nat) (o5 o6 : Option Value), px_PW 1 pc_150 Q 89 [some (.ref 1000), some (.int from_), some (.int to), some (.int (zz_gp Ar Br from_ to m k a)), some (.int (nI k2)), o5, o6] [] ([], px_MH (upd Z 5 (nI P)) (va_up (va_up (va_up F 0 f) 8 A) 9 B))) → px_PW 1 pc_150 Q 14 [some (.ref 1000), some (.int from_), some (.int to), some (.int a), some (.int (nI k)), o5, o6] [] ([], px_MH (upd Z 5 (nI P)) (va_up (va_up (va_up F 0 f) 8 A) 9 B))
  | m, k, a, o5, o6, hk, H => by
    refine px_PW.steps kt_150.2 4 rfl ?_
    refine px_PW.br (fun c0 => ?_) (fun c0 => ?_)
    · have c0 : (nI P) ≤ (nI k) := of_decide_eq_true c0
      have c0 : P ≤ k := (nI_leI (a := P) (b := k) (by omega) (by omega)).mp c0
      obtain rfl : m = 0 := by omega
      exact H k _ _
    · have c0 : ¬ ((nI P) ≤ (nI k)) := of_decide_eq_false c0
      have c0 : ¬ (P ≤ k) := fun q => c0 ((nI_leI (a := P) (b := k) (by omega) (by omega)).mpr q)
      obtain ⟨m2, rfl⟩ : ∃ m2, m = m2 + 1 := ⟨m - 1, by omega⟩
      refine px_PW.steps kt_150.2 3 rfl ?_
      refine px_PW.aldN kt_150.2 rfl rfl (n := k) (rfl) (by omega) ?_
      rw [show (va_up (va_up (va_up F 0 f) 8 A) 9 B) 8 k = Ar k from (hAB k (by omega)).1]
      refine px_PW.steps kt_150.2 1 rfl ?_
      refine px_PW.callS kt_150.2 rfl rfl rfl (mm_ap _ _ _) (by decide) (fun v h1 q => ?_)
      obtain ⟨rfl, rfl⟩ := q
      refine px_PW.steps kt_150.2 4 rfl ?_
      refine px_PW.aldN kt_150.2 rfl rfl (n := k) (rfl) (by omega) ?_
      rw [show (va_up (va_up (va_up F 0 f) 8 A) 9 B) 8 k = Ar k from (hAB k (by omega)).1]
      refine px_PW.steps kt_150.2 3 rfl ?_
      refine px_PW.aldN kt_150.2 rfl rfl (n := k) (rfl) (by omega) ?_
      rw [show (va_up (va_up (va_up F 0 f) 8 A) 9 B) 9 k = Br k from (hAB k (by omega)).2]
      refine px_PW.steps kt_150.2 2 rfl ?_
      refine px_PW.callS kt_150.2 rfl rfl rfl (mm_ap _ _ _) (by decide) (fun v h1 q => ?_)
      obtain ⟨rfl, rfl⟩ := q
      refine px_PW.steps kt_150.2 4 rfl ?_
      refine px_PW.br (fun c1 => ?_) (fun c1 => ?_)
      · have c1 : a ≤ (s_ap (Ar k) from_) := of_decide_eq_true c1
        refine px_PW.steps kt_150.2 5 rfl ?_
        refine px_PW.br (fun c2 => ?_) (fun c2 => ?_)
        · have c2 : a ≤ (s_ap ((Ar k) + (Br k)) to) := of_decide_eq_true c2
          refine px_PW.steps kt_150.2 4 rfl ?_
          have ei : (if a ≤ (s_ap (Ar k) from_) then a else (s_ap (Ar k) from_)) = a := if_pos c1
          have e1 : s_gp1 a (s_ap (Ar k) from_) (s_ap (Ar k + Br k) to) = a := by unfold s_gp1; rw [ei]; exact if_pos c2
          have e0 : zz_gp Ar Br from_ to (m2 + 1) k a = zz_gp Ar Br from_ to m2 (k + 1) a := congrArg (zz_gp Ar Br from_ to m2 (k + 1)) e1
          have g := gap_loop hP hAB (Z := Z) (f := f) (F := F) (from_ := from_) (to := to) (Q := Q) m2 (k + 1) a (some (.int (s_ap (Ar k) from_))) (some (.int (s_ap (Ar k + Br k) to))) (by omega) (fun k9 o5 o6 => by have h := H k9 o5 o6; rw [e0] at h; exact h)
          rw [nI_succ k] at g
          exact g
        · have c2 : ¬ (a ≤ (s_ap ((Ar k) + (Br k)) to)) := of_decide_eq_false c2
          refine px_PW.steps kt_150.2 5 rfl ?_
          have ei : (if a ≤ (s_ap (Ar k) from_) then a else (s_ap (Ar k) from_)) = a := if_pos c1
          have e1 : s_gp1 a (s_ap (Ar k) from_) (s_ap (Ar k + Br k) to) = (s_ap ((Ar k) + (Br k)) to) := by unfold s_gp1; rw [ei]; exact if_neg c2
          have e0 : zz_gp Ar Br from_ to (m2 + 1) k a = zz_gp Ar Br from_ to m2 (k + 1) (s_ap ((Ar k) + (Br k)) to) := congrArg (zz_gp Ar Br from_ to m2 (k + 1)) e1
          have g := gap_loop hP hAB (Z := Z) (f := f) (F := F) (from_ := from_) (to := to) (Q := Q) m2 (k + 1) (s_ap ((Ar k) + (Br k)) to) (some (.int (s_ap (Ar k) from_))) (some (.int (s_ap (Ar k + Br k) to))) (by omega) (fun k9 o5 o6 => by have h := H k9 o5 o6; rw [e0] at h; exact h)
          rw [nI_succ k] at g
          exact g
      · have c1 : ¬ (a ≤ (s_ap (Ar k) from_)) := of_decide_eq_false c1
        refine px_PW.steps kt_150.2 6 rfl ?_
        refine px_PW.br (fun c3 => ?_) (fun c3 => ?_)
        · have c3 : (s_ap (Ar k) from_) ≤ (s_ap ((Ar k) + (Br k)) to) := of_decide_eq_true c3
          refine px_PW.steps kt_150.2 4 rfl ?_
          have ei : (if a ≤ (s_ap (Ar k) from_) then a else (s_ap (Ar k) from_)) = (s_ap (Ar k) from_) := if_neg c1
          have e1 : s_gp1 a (s_ap (Ar k) from_) (s_ap (Ar k + Br k) to) = (s_ap (Ar k) from_) := by unfold s_gp1; rw [ei]; exact if_pos c3
          have e0 : zz_gp Ar Br from_ to (m2 + 1) k a = zz_gp Ar Br from_ to m2 (k + 1) (s_ap (Ar k) from_) := congrArg (zz_gp Ar Br from_ to m2 (k + 1)) e1
          have g := gap_loop hP hAB (Z := Z) (f := f) (F := F) (from_ := from_) (to := to) (Q := Q) m2 (k + 1) (s_ap (Ar k) from_) (some (.int (s_ap (Ar k) from_))) (some (.int (s_ap (Ar k + Br k) to))) (by omega) (fun k9 o5 o6 => by have h := H k9 o5 o6; rw [e0] at h; exact h)
          rw [nI_succ k] at g
          exact g
        · have c3 : ¬ ((s_ap (Ar k) from_) ≤ (s_ap ((Ar k) + (Br k)) to)) := of_decide_eq_false c3
          refine px_PW.steps kt_150.2 5 rfl ?_
          have ei : (if a ≤ (s_ap (Ar k) from_) then a else (s_ap (Ar k) from_)) = (s_ap (Ar k) from_) := if_neg c1
          have e1 : s_gp1 a (s_ap (Ar k) from_) (s_ap (Ar k + Br k) to) = (s_ap ((Ar k) + (Br k)) to) := by unfold s_gp1; rw [ei]; exact if_neg c3
          have e0 : zz_gp Ar Br from_ to (m2 + 1) k a = zz_gp Ar Br from_ to m2 (k + 1) (s_ap ((Ar k) + (Br k)) to) := congrArg (zz_gp Ar Br from_ to m2 (k + 1)) e1
          have g := gap_loop hP hAB (Z := Z) (f := f) (F := F) (from_ := from_) (to := to) (Q := Q) m2 (k + 1) (s_ap ((Ar k) + (Br k)) to) (some (.int (s_ap (Ar k) from_))) (some (.int (s_ap (Ar k + Br k) to))) (by omega) (fun k9 o5 o6 => by have h := H k9 o5 o6; rw [e0] at h; exact h)
          rw [nI_succ k] at g
          exact g
theorem mm_gap {Z f A B : Nat → Int32} {F : Nat → Nat → Int32} {P : Nat} {Ar Br : Nat → Int32} (hP : P ≤ 100) (hAB : ∀ j : Nat, j < P → A j = Ar j ∧ B j = Br j) (hP0 : 1 ≤ P) (from_ to : Int32) : px_PM 2 150 [.ref 1000, .int from_, .int to] ([], px_MH (upd Z 5 (nI P)) (va_up (va_up (va_up F 0 f) 8 A) 9 B)) (fun r h' => r = some (.int (zz_gp Ar Br from_ to P 0 (s_ap (Ar 0) from_))) ∧ h' = ([], px_MH (upd Z 5 (nI P)) (va_up (va_up (va_up F 0 f) 8 A) 9 B))) := by
  refine px_PM.start (nL := 7) (code := pc_150) rfl rfl ?_
  refine px_PW.steps kt_150.2 3 rfl ?_
  refine px_PW.aldN kt_150.2 rfl rfl (n := 0) (rfl) (by omega) ?_
  rw [show (va_up (va_up (va_up F 0 f) 8 A) 9 B) 8 0 = Ar 0 from (hAB 0 (by omega)).1]
  refine px_PW.steps kt_150.2 1 rfl ?_
  refine px_PW.callS kt_150.2 rfl rfl rfl (mm_ap _ _ _) (by decide) (fun v h1 q => ?_)
  obtain ⟨rfl, rfl⟩ := q
  refine px_PW.steps kt_150.2 3 rfl ?_
  refine gap_loop hP hAB P 0 _ none none (by omega) (fun k2 o5 o6 => ?_)
  refine px_PW.steps kt_150.2 1 rfl ?_
  exact px_PW.ret kt_150.2 rfl rfl ⟨rfl, rfl⟩
end
/-! part 44.mall -/
section
def r_cuts (t : Int32) (B : Nat → Int32) (P : Nat) : Nat := zz_cnt (fun k => decide (¬ (t ≤ B k))) P 0 0
def r_halves (t : Int32) (B : Nat → Int32) (P : Nat) : Nat := zz_cnt (fun k => decide (¬ (t < 2 * B k + 3))) P 0 0
def r_nar (B : Nat → Int32) (P : Nat) : Int32 := zz_mn B (P - 1) 1 (B 0)
/-- a row of the wall: its length, its first piece, how many pieces -/
def r_row (f : Nat → Int32) (T J r e w P : Nat) : Prop := s_mlen f (nI r) = nI e ∧ s_mfst f (nI r) = nI w ∧ e ≤ 5000 ∧ w ≤ 200 ∧ P ≤ 100 ∧ 1 ≤ P ∧ (∀ j : Nat, j < P → r_beg w T J j < e) ∧ e ≤ r_beg w T J P
def r_ok (f : Nat → Int32) (T J R : Nat) (e w P : Nat → Nat) : Prop := f 1 = nI T ∧ f 2 = nI J ∧ f 4 = nI R ∧ T ≤ 200 ∧ J ≤ 9 ∧ R ≤ 8 ∧ ∀ r : Nat, r < R → r_row f T J r (e r) (w r) (P r)
theorem mm_layR {Z f A B : Nat → Int32} {F : Nat → Nat → Int32} {p : Int32} {T J r e w P : Nat} (hT : f 1 = nI T) (hJ : f 2 = nI J) (hT2 : T ≤ 200) (hJ9 : J ≤ 9) (h : r_row f T J r e w P) : px_PM 2 143 [.ref 1000, .int (nI r)] ([], px_MH (upd Z 5 p) (va_up (va_up (va_up F 0 f) 8 A) 9 B)) (fun r2 h' => r2 = none ∧ ∃ A' B' : Nat → Int32, (∀ j : Nat, j < P → A' j = r_A w T J j ∧ B' j = r_B e w T J j) ∧ h' = ([], px_MH (upd Z 5 (nI P)) (va_up (va_up (va_up F 0 f) 8 A') 9 B'))) := mm_lay h.1 h.2.1 hT hJ h.2.2.1 h.2.2.2.1 hT2 hJ9 h.2.2.2.2.1 h.2.2.2.2.2.2.1 h.2.2.2.2.2.2.2
theorem all0_loop {Z f : Nat → Int32} {F : Nat → Nat → Int32} {T J R : Nat} {e w P : Nat → Nat} (ok : r_ok f T J R e w P) {Q : Option Value → px_H → Prop} : ∀ (m r : Nat) (v : Int32) (A B : Nat → Int32) (p : Int32) (o4 : Option Value), r + m = R → (∀ (A B : Nat → Int32) (p : Int32) (o4 : Option Value), px_PW 2 pc_147 Q 102 [some (.ref 1000), some (.int 0), some (.int (c_fold (fun r => nI (r_cuts (f 1) (r_B (e r) (w r) T J) (P r))) (fun v o => v + o) m r v)), some (.int (nI R)), o4] [] ([], px_MH (upd Z 5 p) (va_up (va_up (va_up F 0 f) 8 A) 9 B))) → px_PW 2 pc_147 Q 15 [some (.ref 1000), some (.int 0), some (.int v), some (.int (nI r)), o4] [] ([], px_MH (upd Z 5 p) (va_up (va_up (va_up F 0 f) 8 A) 9 B))
  | m, r, v, A, B, p, o4, hr, H => by
    have hR8 := ok.2.2.2.2.2.1
    refine px_PW.steps kt_147.2 4 rfl ?_
    refine px_PW.steps kt_147.2 1 rfl ?_
    refine px_PW.steps kt_147.2 1 rfl ?_
    refine px_PW.br (fun c0 => ?_) (fun c0 => ?_)
    · have c0 : (f 4) ≤ (nI r) := of_decide_eq_true c0
      have c0 : R ≤ r := by rw [ok.2.2.1] at c0; exact (nI_leI (a := R) (b := r) (by omega) (by omega)).mp c0
      obtain rfl : m = 0 := by omega
      obtain rfl : r = R := by omega
      exact H _ _ _ _
    · have c0 : ¬ ((f 4) ≤ (nI r)) := of_decide_eq_false c0
      have c0 : ¬ (R ≤ r) := fun q => c0 (by rw [ok.2.2.1]; exact (nI_leI (a := R) (b := r) (by omega) (by omega)).mpr q)
      obtain ⟨m2, rfl⟩ : ∃ m2, m = m2 + 1 := ⟨m - 1, by omega⟩
      refine px_PW.steps kt_147.2 2 rfl ?_
      refine px_PW.callV kt_147.2 rfl rfl rfl rfl (mm_layR (f := f) ok.1 ok.2.1 ok.2.2.2.1 ok.2.2.2.2.1 (ok.2.2.2.2.2.2 r (by omega))) (by decide) (fun v h1 q => ?_)
      obtain ⟨rfl, A9, B9, hAB9, rfl⟩ := q
      refine px_PW.steps kt_147.2 2 rfl ?_
      refine px_PW.br (fun c1 => ?_) (fun c1 => ?_)
      · have c1 : ¬ ((0 : Int32) = 0) := of_decide_eq_false (px_nt c1)
        exact absurd (by decide) c1
      · have c1 : (0 : Int32) = 0 := of_decide_eq_true (px_nf c1)
        refine px_PW.steps kt_147.2 1 rfl ?_
        refine px_PW.callV kt_147.2 rfl rfl rfl rfl (mm_cuts (f := f) (ok.2.2.2.2.2.2 r (by omega)).2.2.2.2.1 hAB9) (by decide) (fun v h1 q => ?_)
        obtain ⟨rfl, rfl⟩ := q
        refine px_PW.steps kt_147.2 5 rfl ?_
        refine px_PW.br (fun c2 => ?_) (fun c2 => ?_)
        · have c2 : ¬ ((0 : Int32) = 1) := of_decide_eq_false (px_nt c2)
          refine px_PW.steps kt_147.2 6 rfl ?_
          have e0 : c_fold (fun r => nI (r_cuts (f 1) (r_B (e r) (w r) T J) (P r))) (fun v o => v + o) (m2 + 1) r v = c_fold (fun r => nI (r_cuts (f 1) (r_B (e r) (w r) T J) (P r))) (fun v o => v + o) m2 (r + 1) (v + (nI (r_cuts (f 1) (r_B (e r) (w r) T J) (P r)))) := rfl
          have g := all0_loop ok (Z := Z) (F := F) (Q := Q) m2 (r + 1) (v + (nI (r_cuts (f 1) (r_B (e r) (w r) T J) (P r)))) A9 B9 (nI (P r)) (some (.int (nI (r_cuts (f 1) (r_B (e r) (w r) T J) (P r))))) (by omega) (fun A B p o4 => by have h := H A B p o4; rw [e0] at h; exact h)
          rw [nI_succ r] at g
          exact g
        · have c2 : (0 : Int32) = 1 := of_decide_eq_true (px_nf c2)
          exact absurd c2 (by decide)
theorem mm_all0 {Z f A B : Nat → Int32} {F : Nat → Nat → Int32} {p : Int32} {T J R : Nat} {e w P : Nat → Nat} (ok : r_ok f T J R e w P) : px_PM 3 147 [.ref 1000, .int 0] ([], px_MH (upd Z 5 p) (va_up (va_up (va_up F 0 f) 8 A) 9 B)) (fun r h' => r = some (.int (c_fold (fun r => nI (r_cuts (f 1) (r_B (e r) (w r) T J) (P r))) (fun v o => v + o) R 0 0)) ∧ ∃ (A' B' : Nat → Int32) (p' : Int32), h' = ([], px_MH (upd Z 5 p') (va_up (va_up (va_up F 0 f) 8 A') 9 B'))) := by
  refine px_PM.start (nL := 5) (code := pc_147) rfl rfl ?_
  refine px_PW.steps kt_147.2 3 rfl ?_
  refine px_PW.br (fun c0 => ?_) (fun c0 => ?_)
  · have c0 : ¬ ((0 : Int32) = 1) := of_decide_eq_false (px_nt c0)
    refine px_PW.steps kt_147.2 4 rfl ?_
    refine all0_loop ok R 0 0 A B p none (by omega) (fun A B p o4 => ?_)
    refine px_PW.steps kt_147.2 1 rfl ?_
    exact px_PW.ret kt_147.2 rfl rfl ⟨rfl, A, B, p, rfl⟩
  · have c0 : (0 : Int32) = 1 := of_decide_eq_true (px_nf c0)
    exact absurd c0 (by decide)
theorem all1_loop {Z f : Nat → Int32} {F : Nat → Nat → Int32} {T J R : Nat} {e w P : Nat → Nat} (ok : r_ok f T J R e w P) {Q : Option Value → px_H → Prop} : ∀ (m r : Nat) (v : Int32) (A B : Nat → Int32) (p : Int32) (o4 : Option Value), r + m = R → (∀ (A B : Nat → Int32) (p : Int32) (o4 : Option Value), px_PW 2 pc_147 Q 102 [some (.ref 1000), some (.int 1), some (.int (c_fold (fun r => r_nar (r_B (e r) (w r) T J) (P r)) (fun v o => if v ≤ o then v else o) m r v)), some (.int (nI R)), o4] [] ([], px_MH (upd Z 5 p) (va_up (va_up (va_up F 0 f) 8 A) 9 B))) → px_PW 2 pc_147 Q 15 [some (.ref 1000), some (.int 1), some (.int v), some (.int (nI r)), o4] [] ([], px_MH (upd Z 5 p) (va_up (va_up (va_up F 0 f) 8 A) 9 B))
  | m, r, v, A, B, p, o4, hr, H => by
    have hR8 := ok.2.2.2.2.2.1
    refine px_PW.steps kt_147.2 4 rfl ?_
    refine px_PW.steps kt_147.2 1 rfl ?_
    refine px_PW.steps kt_147.2 1 rfl ?_
    refine px_PW.br (fun c0 => ?_) (fun c0 => ?_)
    · have c0 : (f 4) ≤ (nI r) := of_decide_eq_true c0
      have c0 : R ≤ r := by rw [ok.2.2.1] at c0; exact (nI_leI (a := R) (b := r) (by omega) (by omega)).mp c0
      obtain rfl : m = 0 := by omega
      obtain rfl : r = R := by omega
      exact H _ _ _ _
    · have c0 : ¬ ((f 4) ≤ (nI r)) := of_decide_eq_false c0
      have c0 : ¬ (R ≤ r) := fun q => c0 (by rw [ok.2.2.1]; exact (nI_leI (a := R) (b := r) (by omega) (by omega)).mpr q)
      obtain ⟨m2, rfl⟩ : ∃ m2, m = m2 + 1 := ⟨m - 1, by omega⟩
      refine px_PW.steps kt_147.2 2 rfl ?_
      refine px_PW.callV kt_147.2 rfl rfl rfl rfl (mm_layR (f := f) ok.1 ok.2.1 ok.2.2.2.1 ok.2.2.2.2.1 (ok.2.2.2.2.2.2 r (by omega))) (by decide) (fun v h1 q => ?_)
      obtain ⟨rfl, A9, B9, hAB9, rfl⟩ := q
      refine px_PW.steps kt_147.2 2 rfl ?_
      refine px_PW.br (fun c1 => ?_) (fun c1 => ?_)
      · have c1 : ¬ ((1 : Int32) = 0) := of_decide_eq_false (px_nt c1)
        refine px_PW.steps kt_147.2 3 rfl ?_
        refine px_PW.br (fun c2 => ?_) (fun c2 => ?_)
        · have c2 : ¬ ((1 : Int32) = 1) := of_decide_eq_false (px_nt c2)
          exact absurd (by decide) c2
        · have c2 : (1 : Int32) = 1 := of_decide_eq_true (px_nf c2)
          refine px_PW.steps kt_147.2 1 rfl ?_
          refine px_PW.callV kt_147.2 rfl rfl rfl rfl (mm_nar (f := f) (ok.2.2.2.2.2.2 r (by omega)).2.2.2.2.1 hAB9 (ok.2.2.2.2.2.2 r (by omega)).2.2.2.2.2.1) (by decide) (fun v h1 q => ?_)
          obtain ⟨rfl, rfl⟩ := q
          refine px_PW.steps kt_147.2 5 rfl ?_
          refine px_PW.br (fun c3 => ?_) (fun c3 => ?_)
          · have c3 : ¬ ((1 : Int32) = 1) := of_decide_eq_false (px_nt c3)
            exact absurd (by decide) c3
          · have c3 : (1 : Int32) = 1 := of_decide_eq_true (px_nf c3)
            refine px_PW.steps kt_147.2 3 rfl ?_
            refine px_PW.br (fun c4 => ?_) (fun c4 => ?_)
            · have c4 : v ≤ (r_nar (r_B (e r) (w r) T J) (P r)) := of_decide_eq_true c4
              refine px_PW.steps kt_147.2 5 rfl ?_
              have e0 : c_fold (fun r => r_nar (r_B (e r) (w r) T J) (P r)) (fun v o => if v ≤ o then v else o) (m2 + 1) r v = c_fold (fun r => r_nar (r_B (e r) (w r) T J) (P r)) (fun v o => if v ≤ o then v else o) m2 (r + 1) v := congrArg (c_fold (fun r => r_nar (r_B (e r) (w r) T J) (P r)) (fun v o => if v ≤ o then v else o) m2 (r + 1)) (if_pos c4)
              have g := all1_loop ok (Z := Z) (F := F) (Q := Q) m2 (r + 1) v A9 B9 (nI (P r)) (some (.int (r_nar (r_B (e r) (w r) T J) (P r)))) (by omega) (fun A B p o4 => by have h := H A B p o4; rw [e0] at h; exact h)
              rw [nI_succ r] at g
              exact g
            · have c4 : ¬ (v ≤ (r_nar (r_B (e r) (w r) T J) (P r))) := of_decide_eq_false c4
              refine px_PW.steps kt_147.2 5 rfl ?_
              have e0 : c_fold (fun r => r_nar (r_B (e r) (w r) T J) (P r)) (fun v o => if v ≤ o then v else o) (m2 + 1) r v = c_fold (fun r => r_nar (r_B (e r) (w r) T J) (P r)) (fun v o => if v ≤ o then v else o) m2 (r + 1) (r_nar (r_B (e r) (w r) T J) (P r)) := congrArg (c_fold (fun r => r_nar (r_B (e r) (w r) T J) (P r)) (fun v o => if v ≤ o then v else o) m2 (r + 1)) (if_neg c4)
              have g := all1_loop ok (Z := Z) (F := F) (Q := Q) m2 (r + 1) (r_nar (r_B (e r) (w r) T J) (P r)) A9 B9 (nI (P r)) (some (.int (r_nar (r_B (e r) (w r) T J) (P r)))) (by omega) (fun A B p o4 => by have h := H A B p o4; rw [e0] at h; exact h)
              rw [nI_succ r] at g
              exact g
      · have c1 : (1 : Int32) = 0 := of_decide_eq_true (px_nf c1)
        exact absurd c1 (by decide)
theorem mm_all1 {Z f A B : Nat → Int32} {F : Nat → Nat → Int32} {p : Int32} {T J R : Nat} {e w P : Nat → Nat} (ok : r_ok f T J R e w P) : px_PM 3 147 [.ref 1000, .int 1] ([], px_MH (upd Z 5 p) (va_up (va_up (va_up F 0 f) 8 A) 9 B)) (fun r h' => r = some (.int (c_fold (fun r => r_nar (r_B (e r) (w r) T J) (P r)) (fun v o => if v ≤ o then v else o) R 0 9999)) ∧ ∃ (A' B' : Nat → Int32) (p' : Int32), h' = ([], px_MH (upd Z 5 p') (va_up (va_up (va_up F 0 f) 8 A') 9 B'))) := by
  refine px_PM.start (nL := 5) (code := pc_147) rfl rfl ?_
  refine px_PW.steps kt_147.2 3 rfl ?_
  refine px_PW.br (fun c0 => ?_) (fun c0 => ?_)
  · have c0 : ¬ ((1 : Int32) = 1) := of_decide_eq_false (px_nt c0)
    exact absurd (by decide) c0
  · have c0 : (1 : Int32) = 1 := of_decide_eq_true (px_nf c0)
    refine px_PW.steps kt_147.2 5 rfl ?_
    refine all1_loop ok R 0 9999 A B p none (by omega) (fun A B p o4 => ?_)
    refine px_PW.steps kt_147.2 1 rfl ?_
    exact px_PW.ret kt_147.2 rfl rfl ⟨rfl, A, B, p, rfl⟩
theorem all2_loop {Z f : Nat → Int32} {F : Nat → Nat → Int32} {T J R : Nat} {e w P : Nat → Nat} (ok : r_ok f T J R e w P) {Q : Option Value → px_H → Prop} : ∀ (m r : Nat) (v : Int32) (A B : Nat → Int32) (p : Int32) (o4 : Option Value), r + m = R → (∀ (A B : Nat → Int32) (p : Int32) (o4 : Option Value), px_PW 2 pc_147 Q 102 [some (.ref 1000), some (.int 2), some (.int (c_fold (fun r => nI (r_halves (f 1) (r_B (e r) (w r) T J) (P r))) (fun v o => v + o) m r v)), some (.int (nI R)), o4] [] ([], px_MH (upd Z 5 p) (va_up (va_up (va_up F 0 f) 8 A) 9 B))) → px_PW 2 pc_147 Q 15 [some (.ref 1000), some (.int 2), some (.int v), some (.int (nI r)), o4] [] ([], px_MH (upd Z 5 p) (va_up (va_up (va_up F 0 f) 8 A) 9 B))
  | m, r, v, A, B, p, o4, hr, H => by
    have hR8 := ok.2.2.2.2.2.1
    refine px_PW.steps kt_147.2 4 rfl ?_
    refine px_PW.steps kt_147.2 1 rfl ?_
    refine px_PW.steps kt_147.2 1 rfl ?_
    refine px_PW.br (fun c0 => ?_) (fun c0 => ?_)
    · have c0 : (f 4) ≤ (nI r) := of_decide_eq_true c0
      have c0 : R ≤ r := by rw [ok.2.2.1] at c0; exact (nI_leI (a := R) (b := r) (by omega) (by omega)).mp c0
      obtain rfl : m = 0 := by omega
      obtain rfl : r = R := by omega
      exact H _ _ _ _
    · have c0 : ¬ ((f 4) ≤ (nI r)) := of_decide_eq_false c0
      have c0 : ¬ (R ≤ r) := fun q => c0 (by rw [ok.2.2.1]; exact (nI_leI (a := R) (b := r) (by omega) (by omega)).mpr q)
      obtain ⟨m2, rfl⟩ : ∃ m2, m = m2 + 1 := ⟨m - 1, by omega⟩
      refine px_PW.steps kt_147.2 2 rfl ?_
      refine px_PW.callV kt_147.2 rfl rfl rfl rfl (mm_layR (f := f) ok.1 ok.2.1 ok.2.2.2.1 ok.2.2.2.2.1 (ok.2.2.2.2.2.2 r (by omega))) (by decide) (fun v h1 q => ?_)
      obtain ⟨rfl, A9, B9, hAB9, rfl⟩ := q
      refine px_PW.steps kt_147.2 2 rfl ?_
      refine px_PW.br (fun c1 => ?_) (fun c1 => ?_)
      · have c1 : ¬ ((2 : Int32) = 0) := of_decide_eq_false (px_nt c1)
        refine px_PW.steps kt_147.2 3 rfl ?_
        refine px_PW.br (fun c2 => ?_) (fun c2 => ?_)
        · have c2 : ¬ ((2 : Int32) = 1) := of_decide_eq_false (px_nt c2)
          refine px_PW.steps kt_147.2 3 rfl ?_
          refine px_PW.br (fun c3 => ?_) (fun c3 => ?_)
          · have c3 : ¬ ((2 : Int32) = 2) := of_decide_eq_false (px_nt c3)
            exact absurd (by decide) c3
          · have c3 : (2 : Int32) = 2 := of_decide_eq_true (px_nf c3)
            refine px_PW.steps kt_147.2 1 rfl ?_
            refine px_PW.callV kt_147.2 rfl rfl rfl rfl (mm_halves (f := f) (ok.2.2.2.2.2.2 r (by omega)).2.2.2.2.1 hAB9) (by decide) (fun v h1 q => ?_)
            obtain ⟨rfl, rfl⟩ := q
            refine px_PW.steps kt_147.2 5 rfl ?_
            refine px_PW.br (fun c4 => ?_) (fun c4 => ?_)
            · have c4 : ¬ ((2 : Int32) = 1) := of_decide_eq_false (px_nt c4)
              refine px_PW.steps kt_147.2 6 rfl ?_
              have e0 : c_fold (fun r => nI (r_halves (f 1) (r_B (e r) (w r) T J) (P r))) (fun v o => v + o) (m2 + 1) r v = c_fold (fun r => nI (r_halves (f 1) (r_B (e r) (w r) T J) (P r))) (fun v o => v + o) m2 (r + 1) (v + (nI (r_halves (f 1) (r_B (e r) (w r) T J) (P r)))) := rfl
              have g := all2_loop ok (Z := Z) (F := F) (Q := Q) m2 (r + 1) (v + (nI (r_halves (f 1) (r_B (e r) (w r) T J) (P r)))) A9 B9 (nI (P r)) (some (.int (nI (r_halves (f 1) (r_B (e r) (w r) T J) (P r))))) (by omega) (fun A B p o4 => by have h := H A B p o4; rw [e0] at h; exact h)
              rw [nI_succ r] at g
              exact g
            · have c4 : (2 : Int32) = 1 := of_decide_eq_true (px_nf c4)
              exact absurd c4 (by decide)
        · have c2 : (2 : Int32) = 1 := of_decide_eq_true (px_nf c2)
          exact absurd c2 (by decide)
      · have c1 : (2 : Int32) = 0 := of_decide_eq_true (px_nf c1)
        exact absurd c1 (by decide)
theorem mm_all2 {Z f A B : Nat → Int32} {F : Nat → Nat → Int32} {p : Int32} {T J R : Nat} {e w P : Nat → Nat} (ok : r_ok f T J R e w P) : px_PM 3 147 [.ref 1000, .int 2] ([], px_MH (upd Z 5 p) (va_up (va_up (va_up F 0 f) 8 A) 9 B)) (fun r h' => r = some (.int (c_fold (fun r => nI (r_halves (f 1) (r_B (e r) (w r) T J) (P r))) (fun v o => v + o) R 0 0)) ∧ ∃ (A' B' : Nat → Int32) (p' : Int32), h' = ([], px_MH (upd Z 5 p') (va_up (va_up (va_up F 0 f) 8 A') 9 B'))) := by
  refine px_PM.start (nL := 5) (code := pc_147) rfl rfl ?_
  refine px_PW.steps kt_147.2 3 rfl ?_
  refine px_PW.br (fun c0 => ?_) (fun c0 => ?_)
  · have c0 : ¬ ((2 : Int32) = 1) := of_decide_eq_false (px_nt c0)
    refine px_PW.steps kt_147.2 4 rfl ?_
    refine all2_loop ok R 0 0 A B p none (by omega) (fun A B p o4 => ?_)
    refine px_PW.steps kt_147.2 1 rfl ?_
    exact px_PW.ret kt_147.2 rfl rfl ⟨rfl, A, B, p, rfl⟩
  · have c0 : (2 : Int32) = 1 := of_decide_eq_true (px_nf c0)
    exact absurd c0 (by decide)
theorem all3_loop {Z f : Nat → Int32} {F : Nat → Nat → Int32} {T J R : Nat} {e w P : Nat → Nat} (ok : r_ok f T J R e w P) {Q : Option Value → px_H → Prop} : ∀ (m r : Nat) (v : Int32) (A B : Nat → Int32) (p : Int32) (o4 : Option Value), r + m = R → (∀ (A B : Nat → Int32) (p : Int32) (o4 : Option Value), px_PW 2 pc_147 Q 102 [some (.ref 1000), some (.int 3), some (.int (c_fold (fun r => nI (P r)) (fun v o => v + o) m r v)), some (.int (nI R)), o4] [] ([], px_MH (upd Z 5 p) (va_up (va_up (va_up F 0 f) 8 A) 9 B))) → px_PW 2 pc_147 Q 15 [some (.ref 1000), some (.int 3), some (.int v), some (.int (nI r)), o4] [] ([], px_MH (upd Z 5 p) (va_up (va_up (va_up F 0 f) 8 A) 9 B))
  | m, r, v, A, B, p, o4, hr, H => by
    have hR8 := ok.2.2.2.2.2.1
    refine px_PW.steps kt_147.2 4 rfl ?_
    refine px_PW.steps kt_147.2 1 rfl ?_
    refine px_PW.steps kt_147.2 1 rfl ?_
    refine px_PW.br (fun c0 => ?_) (fun c0 => ?_)
    · have c0 : (f 4) ≤ (nI r) := of_decide_eq_true c0
      have c0 : R ≤ r := by rw [ok.2.2.1] at c0; exact (nI_leI (a := R) (b := r) (by omega) (by omega)).mp c0
      obtain rfl : m = 0 := by omega
      obtain rfl : r = R := by omega
      exact H _ _ _ _
    · have c0 : ¬ ((f 4) ≤ (nI r)) := of_decide_eq_false c0
      have c0 : ¬ (R ≤ r) := fun q => c0 (by rw [ok.2.2.1]; exact (nI_leI (a := R) (b := r) (by omega) (by omega)).mpr q)
      obtain ⟨m2, rfl⟩ : ∃ m2, m = m2 + 1 := ⟨m - 1, by omega⟩
      refine px_PW.steps kt_147.2 2 rfl ?_
      refine px_PW.callV kt_147.2 rfl rfl rfl rfl (mm_layR (f := f) ok.1 ok.2.1 ok.2.2.2.1 ok.2.2.2.2.1 (ok.2.2.2.2.2.2 r (by omega))) (by decide) (fun v h1 q => ?_)
      obtain ⟨rfl, A9, B9, hAB9, rfl⟩ := q
      refine px_PW.steps kt_147.2 2 rfl ?_
      refine px_PW.br (fun c1 => ?_) (fun c1 => ?_)
      · have c1 : ¬ ((3 : Int32) = 0) := of_decide_eq_false (px_nt c1)
        refine px_PW.steps kt_147.2 3 rfl ?_
        refine px_PW.br (fun c2 => ?_) (fun c2 => ?_)
        · have c2 : ¬ ((3 : Int32) = 1) := of_decide_eq_false (px_nt c2)
          refine px_PW.steps kt_147.2 3 rfl ?_
          refine px_PW.br (fun c3 => ?_) (fun c3 => ?_)
          · have c3 : ¬ ((3 : Int32) = 2) := of_decide_eq_false (px_nt c3)
            refine px_PW.steps kt_147.2 6 rfl ?_
            refine px_PW.br (fun c4 => ?_) (fun c4 => ?_)
            · have c4 : ¬ ((3 : Int32) = 1) := of_decide_eq_false (px_nt c4)
              refine px_PW.steps kt_147.2 6 rfl ?_
              have e0 : c_fold (fun r => nI (P r)) (fun v o => v + o) (m2 + 1) r v = c_fold (fun r => nI (P r)) (fun v o => v + o) m2 (r + 1) (v + (nI (P r))) := rfl
              have g := all3_loop ok (Z := Z) (F := F) (Q := Q) m2 (r + 1) (v + (nI (P r))) A9 B9 (nI (P r)) (some (.int (nI (P r)))) (by omega) (fun A B p o4 => by have h := H A B p o4; rw [e0] at h; exact h)
              rw [nI_succ r] at g
              exact g
            · have c4 : (3 : Int32) = 1 := of_decide_eq_true (px_nf c4)
              exact absurd c4 (by decide)
          · have c3 : (3 : Int32) = 2 := of_decide_eq_true (px_nf c3)
            exact absurd c3 (by decide)
        · have c2 : (3 : Int32) = 1 := of_decide_eq_true (px_nf c2)
          exact absurd c2 (by decide)
      · have c1 : (3 : Int32) = 0 := of_decide_eq_true (px_nf c1)
        exact absurd c1 (by decide)
theorem mm_all3 {Z f A B : Nat → Int32} {F : Nat → Nat → Int32} {p : Int32} {T J R : Nat} {e w P : Nat → Nat} (ok : r_ok f T J R e w P) : px_PM 3 147 [.ref 1000, .int 3] ([], px_MH (upd Z 5 p) (va_up (va_up (va_up F 0 f) 8 A) 9 B)) (fun r h' => r = some (.int (c_fold (fun r => nI (P r)) (fun v o => v + o) R 0 0)) ∧ ∃ (A' B' : Nat → Int32) (p' : Int32), h' = ([], px_MH (upd Z 5 p') (va_up (va_up (va_up F 0 f) 8 A') 9 B'))) := by
  refine px_PM.start (nL := 5) (code := pc_147) rfl rfl ?_
  refine px_PW.steps kt_147.2 3 rfl ?_
  refine px_PW.br (fun c0 => ?_) (fun c0 => ?_)
  · have c0 : ¬ ((3 : Int32) = 1) := of_decide_eq_false (px_nt c0)
    refine px_PW.steps kt_147.2 4 rfl ?_
    refine all3_loop ok R 0 0 A B p none (by omega) (fun A B p o4 => ?_)
    refine px_PW.steps kt_147.2 1 rfl ?_
    exact px_PW.ret kt_147.2 rfl rfl ⟨rfl, A, B, p, rfl⟩
  · have c0 : (3 : Int32) = 1 := of_decide_eq_true (px_nf c0)
    exact absurd c0 (by decide)
theorem zz_can (Z : Nat → Int32) (F : Nat → Nat → Int32) : px_MH Z F = px_MH (upd Z 5 (Z 5)) (va_up (va_up (va_up F 0 (F 0)) 8 (F 8)) 9 (F 9)) := by rw [zz_ui, px_up_id, px_up_id, px_up_id]
theorem zz_sm {Z : Nat → Int32} {F : Nat → Nat → Int32} {A B : Nat → Int32} {p : Int32} : px_sm Z F (upd Z 5 p) (va_up (va_up (va_up F 0 (F 0)) 8 A) 9 B) := ⟨rfl, fun h => h, rfl, rfl, rfl, rfl, rfl, rfl, rfl⟩
theorem px_rowN {f : Nat → Int32} {R : Nat} (hR : f 4 = nI R) (hR8 : R ≤ 8) {row : Int32} (c : 0 ≤ row ∧ row ≤ f 4 - 1) : row = nI row.toNatClampNeg ∧ row.toNatClampNeg < R := px_inS hR (by omega) c
theorem mm_layE {Z f A B : Nat → Int32} {F : Nat → Nat → Int32} {p : Int32} {T J r e w P : Nat} {row : Int32} (hr : row = nI r) (hT : f 1 = nI T) (hJ : f 2 = nI J) (hT2 : T ≤ 200) (hJ9 : J ≤ 9) (h : r_row f T J r e w P) : px_PM 2 143 [.ref 1000, .int row] ([], px_MH (upd Z 5 p) (va_up (va_up (va_up F 0 f) 8 A) 9 B)) (fun r2 h' => r2 = none ∧ ∃ A' B' : Nat → Int32, (∀ j : Nat, j < P → A' j = r_A w T J j ∧ B' j = r_B e w T J j) ∧ h' = ([], px_MH (upd Z 5 (nI P)) (va_up (va_up (va_up F 0 f) 8 A') 9 B'))) := by
  subst hr
  exact mm_layR hT hJ hT2 hJ9 h
theorem px_pci {i : Int32} {P : Nat} (hP : P ≤ 100) (a : -1 ≤ i) (b : ¬ (i = -1)) (c : ¬ (nI P ≤ i)) : i = nI i.toNatClampNeg ∧ i.toNatClampNeg < P := by
  have h0 : ¬ i < 0 := fun q => by
    rw [Int32.lt_iff_toInt_lt, Int32.toInt_zero] at q
    rw [Int32.le_iff_toInt_le] at a
    have h1 : (-1 : Int32).toInt = -1 := by decide
    rw [h1] at a
    exact b (px_i_of (k := -1) (by omega) h1)
  obtain ⟨k, hk, rfl⟩ := nI_of h0
  rw [nI_clamp hk]
  refine ⟨rfl, ?_⟩
  rcases Nat.lt_or_ge k P with q | q
  · exact q
  · exact absurd (nI_le q hk) c
def s_mpiece (T J : Nat) (e w P : Nat → Nat) (F : Nat → Nat → Int32) (row i : Int32) : Int32 := (if 0 ≤ row ∧ row ≤ F 0 4 - 1 then (if (-1) ≤ i then (if i = (-1) then (nI (P row.toNatClampNeg)) else (if (nI (P row.toNatClampNeg)) ≤ i then (-1000000000 - 2) else (r_B (e row.toNatClampNeg) (w row.toNatClampNeg) T J i.toNatClampNeg))) else (-1000000000 - 1)) else (-1000000000 - 1))
theorem kc_mpiece {Z : Nat → Int32} {F : Nat → Nat → Int32} {T J R : Nat} {e w P : Nat → Nat} (ok : r_ok (F 0) T J R e w P) (row i : Int32) : px_PM 3 168 [.ref 1000, .int row, .int i] ([], px_MH Z F) (fun r h' => r = some (.int (s_mpiece T J e w P F row i)) ∧ ∃ Z' F', px_sm Z F Z' F' ∧ h' = ([], px_MH Z' F')) := by
  refine px_PM.start (nL := 3) (code := pc_168) rfl rfl ?_
  refine px_PW.steps kt_168.2 2 rfl ?_
  refine px_PW.callV kt_168.2 rfl rfl rfl rfl (mm_isRow _) (by decide) (fun v h1 q => ?_)
  obtain ⟨rfl, rfl⟩ := q
  refine px_PW.steps kt_168.2 1 rfl ?_
  refine px_PW.br (fun c0 => ?_) (fun c0 => ?_)
  · have c0 : ¬ (0 ≤ row ∧ row ≤ F 0 4 - 1) := px_b1z (of_decide_eq_true c0)
    refine px_PW.steps kt_168.2 2 rfl ?_
    refine px_PW.callV kt_168.2 rfl rfl rfl rfl (mm_error 1 (by decide)) (by decide) (fun v h1 q => ?_)
    obtain ⟨rfl, rfl⟩ := q
    refine px_PW.ret kt_168.2 rfl rfl ?_
    have E : s_mpiece T J e w P F row i = (-1000000000 - 1) := if_neg c0
    rw [E]
    exact ⟨rfl, _, _, px_sm.err, rfl⟩
  · have c0 : 0 ≤ row ∧ row ≤ F 0 4 - 1 := px_b1n (of_decide_eq_false c0)
    refine px_PW.steps kt_168.2 3 rfl ?_
    refine px_PW.br (fun c1 => ?_) (fun c1 => ?_)
    · have c1 : (-1) ≤ i := of_decide_eq_true c1
      refine px_PW.steps kt_168.2 2 rfl ?_
      refine px_PW.hp (h' := ([], px_MH (upd Z 5 (Z 5)) (va_up (va_up (va_up F 0 (F 0)) 8 (F 8)) 9 (F 9)))) (by rw [← zz_can]) ?_
      refine px_PW.callV kt_168.2 rfl rfl rfl rfl (mm_layE (px_rowN ok.2.2.1 ok.2.2.2.2.2.1 c0).1 ok.1 ok.2.1 ok.2.2.2.1 ok.2.2.2.2.1 (ok.2.2.2.2.2.2 _ (px_rowN ok.2.2.1 ok.2.2.2.2.2.1 c0).2)) (by decide) (fun v h1 q => ?_)
      obtain ⟨rfl, A9, B9, hAB9, rfl⟩ := q
      have hrow := ok.2.2.2.2.2.2 _ (px_rowN ok.2.2.1 ok.2.2.2.2.2.1 c0).2
      refine px_PW.steps kt_168.2 3 rfl ?_
      refine px_PW.br (fun c2 => ?_) (fun c2 => ?_)
      · have c2 : ¬ (i = (-1)) := of_decide_eq_false (px_nt c2)
        refine px_PW.steps kt_168.2 4 rfl ?_
        refine px_PW.br (fun c3 => ?_) (fun c3 => ?_)
        · have c3 : (nI (P row.toNatClampNeg)) ≤ i := of_decide_eq_true c3
          refine px_PW.steps kt_168.2 2 rfl ?_
          refine px_PW.callV kt_168.2 rfl rfl rfl rfl (mm_error 2 (by decide)) (by decide) (fun v h1 q => ?_)
          obtain ⟨rfl, rfl⟩ := q
          refine px_PW.ret kt_168.2 rfl rfl ?_
          have E : s_mpiece T J e w P F row i = (-1000000000 - 2) := (if_pos c0).trans ((if_pos c1).trans ((if_neg c2).trans (if_pos c3)))
          rw [E]
          exact ⟨rfl, _, _, (zz_sm.tr px_sm.err), rfl⟩
        · have c3 : ¬ ((nI (P row.toNatClampNeg)) ≤ i) := of_decide_eq_false c3
          refine px_PW.steps kt_168.2 3 rfl ?_
          have hi := px_pci (i := i) (P := (P row.toNatClampNeg)) hrow.2.2.2.2.1 c1 c2 c3
          refine px_PW.aldN kt_168.2 rfl rfl (n := i.toNatClampNeg) hi.1 (by have := hrow.2.2.2.2.1; have := hi.2; omega) ?_
          rw [show (va_up (va_up (va_up F 0 (F 0)) 8 A9) 9 B9) 9 i.toNatClampNeg = r_B (e row.toNatClampNeg) (w row.toNatClampNeg) T J i.toNatClampNeg from (hAB9 _ hi.2).2]
          refine px_PW.steps kt_168.2 1 rfl ?_
          refine px_PW.ret kt_168.2 rfl rfl ?_
          have E : s_mpiece T J e w P F row i = (r_B (e row.toNatClampNeg) (w row.toNatClampNeg) T J i.toNatClampNeg) := (if_pos c0).trans ((if_pos c1).trans ((if_neg c2).trans (if_neg c3)))
          rw [E]
          exact ⟨rfl, _, _, zz_sm, rfl⟩
      · have c2 : i = (-1) := of_decide_eq_true (px_nf c2)
        refine px_PW.steps kt_168.2 3 rfl ?_
        refine px_PW.ret kt_168.2 rfl rfl ?_
        have E : s_mpiece T J e w P F row i = (nI (P row.toNatClampNeg)) := (if_pos c0).trans ((if_pos c1).trans (if_pos c2))
        rw [E]
        exact ⟨rfl, _, _, zz_sm, rfl⟩
    · have c1 : ¬ ((-1) ≤ i) := of_decide_eq_false c1
      refine px_PW.steps kt_168.2 2 rfl ?_
      refine px_PW.callV kt_168.2 rfl rfl rfl rfl (mm_error 1 (by decide)) (by decide) (fun v h1 q => ?_)
      obtain ⟨rfl, rfl⟩ := q
      refine px_PW.ret kt_168.2 rfl rfl ?_
      have E : s_mpiece T J e w P F row i = (-1000000000 - 1) := (if_pos c0).trans (if_neg c1)
      rw [E]
      exact ⟨rfl, _, _, px_sm.err, rfl⟩
def s_mrowIs (T J : Nat) (e w P : Nat → Nat) (F : Nat → Nat → Int32) (row what : Int32) : Int32 := (if 0 ≤ row ∧ row ≤ F 0 4 - 1 then (if 0 ≤ what ∧ what ≤ 3 then (if what = 0 then (s_mlen (F 0) row) else (if what = 1 then (nI (r_cuts ((F 0) 1) (r_B (e row.toNatClampNeg) (w row.toNatClampNeg) T J) (P row.toNatClampNeg))) else (if what = 2 then (r_nar (r_B (e row.toNatClampNeg) (w row.toNatClampNeg) T J) (P row.toNatClampNeg)) else (s_mfst (F 0) row)))) else (-1000000000 - 1)) else (-1000000000 - 1))
theorem kc_mrowIs {Z : Nat → Int32} {F : Nat → Nat → Int32} {T J R : Nat} {e w P : Nat → Nat} (ok : r_ok (F 0) T J R e w P) (row what : Int32) : px_PM 3 169 [.ref 1000, .int row, .int what] ([], px_MH Z F) (fun r h' => r = some (.int (s_mrowIs T J e w P F row what)) ∧ ∃ Z' F', px_sm Z F Z' F' ∧ h' = ([], px_MH Z' F')) := by
  refine px_PM.start (nL := 3) (code := pc_169) rfl rfl ?_
  refine px_PW.steps kt_169.2 2 rfl ?_
  refine px_PW.callV kt_169.2 rfl rfl rfl rfl (mm_isRow _) (by decide) (fun v h1 q => ?_)
  obtain ⟨rfl, rfl⟩ := q
  refine px_PW.steps kt_169.2 1 rfl ?_
  refine px_PW.br (fun c0 => ?_) (fun c0 => ?_)
  · have c0 : ¬ (0 ≤ row ∧ row ≤ F 0 4 - 1) := px_b1z (of_decide_eq_true c0)
    refine px_PW.steps kt_169.2 2 rfl ?_
    refine px_PW.callV kt_169.2 rfl rfl rfl rfl (mm_error 1 (by decide)) (by decide) (fun v h1 q => ?_)
    obtain ⟨rfl, rfl⟩ := q
    refine px_PW.ret kt_169.2 rfl rfl ?_
    have E : s_mrowIs T J e w P F row what = (-1000000000 - 1) := if_neg c0
    rw [E]
    exact ⟨rfl, _, _, px_sm.err, rfl⟩
  · have c0 : 0 ≤ row ∧ row ≤ F 0 4 - 1 := px_b1n (of_decide_eq_false c0)
    refine px_PW.steps kt_169.2 3 rfl ?_
    refine px_PW.callS kt_169.2 rfl rfl rfl (cm_117 _ _ _ _) (by decide) (fun v h1 q => ?_)
    obtain ⟨rfl, rfl⟩ := q
    refine px_PW.steps kt_169.2 1 rfl ?_
    refine px_PW.br (fun c1 => ?_) (fun c1 => ?_)
    · have c1 : 0 ≤ what ∧ what ≤ 3 := px_b1n (of_decide_eq_false (px_nt c1))
      refine px_PW.steps kt_169.2 2 rfl ?_
      refine px_PW.hp (h' := ([], px_MH (upd Z 5 (Z 5)) (va_up (va_up (va_up F 0 (F 0)) 8 (F 8)) 9 (F 9)))) (by rw [← zz_can]) ?_
      refine px_PW.callV kt_169.2 rfl rfl rfl rfl (mm_layE (px_rowN ok.2.2.1 ok.2.2.2.2.2.1 c0).1 ok.1 ok.2.1 ok.2.2.2.1 ok.2.2.2.2.1 (ok.2.2.2.2.2.2 _ (px_rowN ok.2.2.1 ok.2.2.2.2.2.1 c0).2)) (by decide) (fun v h1 q => ?_)
      obtain ⟨rfl, A9, B9, hAB9, rfl⟩ := q
      have hrow := ok.2.2.2.2.2.2 _ (px_rowN ok.2.2.1 ok.2.2.2.2.2.1 c0).2
      refine px_PW.steps kt_169.2 2 rfl ?_
      refine px_PW.br (fun c2 => ?_) (fun c2 => ?_)
      · have c2 : ¬ (what = 0) := of_decide_eq_false (px_nt c2)
        refine px_PW.steps kt_169.2 3 rfl ?_
        refine px_PW.br (fun c3 => ?_) (fun c3 => ?_)
        · have c3 : ¬ (what = 1) := of_decide_eq_false (px_nt c3)
          refine px_PW.steps kt_169.2 3 rfl ?_
          refine px_PW.br (fun c4 => ?_) (fun c4 => ?_)
          · have c4 : ¬ (what = 2) := of_decide_eq_false (px_nt c4)
            refine px_PW.steps kt_169.2 2 rfl ?_
            refine px_PW.callV kt_169.2 rfl rfl rfl rfl (mm_mfst _) (by decide) (fun v h1 q => ?_)
            obtain ⟨rfl, rfl⟩ := q
            refine px_PW.ret kt_169.2 rfl rfl ?_
            have E : s_mrowIs T J e w P F row what = (s_mfst (F 0) row) := (if_pos c0).trans ((if_pos c1).trans ((if_neg c2).trans ((if_neg c3).trans (if_neg c4))))
            rw [E]
            exact ⟨rfl, _, _, zz_sm, rfl⟩
          · have c4 : what = 2 := of_decide_eq_true (px_nf c4)
            refine px_PW.steps kt_169.2 1 rfl ?_
            refine px_PW.callV kt_169.2 rfl rfl rfl rfl (mm_nar (f := (F 0)) hrow.2.2.2.2.1 hAB9 hrow.2.2.2.2.2.1) (by decide) (fun v h1 q => ?_)
            obtain ⟨rfl, rfl⟩ := q
            refine px_PW.steps kt_169.2 1 rfl ?_
            refine px_PW.ret kt_169.2 rfl rfl ?_
            have E : s_mrowIs T J e w P F row what = (r_nar (r_B (e row.toNatClampNeg) (w row.toNatClampNeg) T J) (P row.toNatClampNeg)) := (if_pos c0).trans ((if_pos c1).trans ((if_neg c2).trans ((if_neg c3).trans (if_pos c4))))
            rw [E]
            exact ⟨rfl, _, _, zz_sm, rfl⟩
        · have c3 : what = 1 := of_decide_eq_true (px_nf c3)
          refine px_PW.steps kt_169.2 1 rfl ?_
          refine px_PW.callV kt_169.2 rfl rfl rfl rfl (mm_cuts (f := (F 0)) hrow.2.2.2.2.1 hAB9) (by decide) (fun v h1 q => ?_)
          obtain ⟨rfl, rfl⟩ := q
          refine px_PW.steps kt_169.2 1 rfl ?_
          refine px_PW.ret kt_169.2 rfl rfl ?_
          have E : s_mrowIs T J e w P F row what = (nI (r_cuts ((F 0) 1) (r_B (e row.toNatClampNeg) (w row.toNatClampNeg) T J) (P row.toNatClampNeg))) := (if_pos c0).trans ((if_pos c1).trans ((if_neg c2).trans (if_pos c3)))
          rw [E]
          exact ⟨rfl, _, _, zz_sm, rfl⟩
      · have c2 : what = 0 := of_decide_eq_true (px_nf c2)
        refine px_PW.steps kt_169.2 2 rfl ?_
        refine px_PW.callV kt_169.2 rfl rfl rfl rfl (mm_mlen _) (by decide) (fun v h1 q => ?_)
        obtain ⟨rfl, rfl⟩ := q
        refine px_PW.steps kt_169.2 1 rfl ?_
        refine px_PW.ret kt_169.2 rfl rfl ?_
        have E : s_mrowIs T J e w P F row what = (s_mlen (F 0) row) := (if_pos c0).trans ((if_pos c1).trans (if_pos c2))
        rw [E]
        exact ⟨rfl, _, _, zz_sm, rfl⟩
    · have c1 : ¬ (0 ≤ what ∧ what ≤ 3) := px_b1z (of_decide_eq_true (px_nf c1))
      refine px_PW.steps kt_169.2 2 rfl ?_
      refine px_PW.callV kt_169.2 rfl rfl rfl rfl (mm_error 1 (by decide)) (by decide) (fun v h1 q => ?_)
      obtain ⟨rfl, rfl⟩ := q
      refine px_PW.ret kt_169.2 rfl rfl ?_
      have E : s_mrowIs T J e w P F row what = (-1000000000 - 1) := (if_pos c0).trans (if_neg c1)
      rw [E]
      exact ⟨rfl, _, _, px_sm.err, rfl⟩
end
/-! part 45.mbest -/
section
def s_mro (F : Nat → Nat → Int32) (k : Nat) (Br : Nat → Int32) (j : Nat) : Bool := decide (F 13 (24 * k + j) = Br j)
theorem m_ro_loop {Z f A B : Nat → Int32} {F : Nat → Nat → Int32} {k S P : Nat} {Ar Br : Nat → Int32} (hk : k < 4) (hS : F 12 k = nI S) (hS24 : S ≤ 24) (hP : P ≤ 100) (hAB : ∀ j : Nat, j < P → A j = Ar j ∧ B j = Br j) {Bn : Nat} (hB : Bn = min S P) {Q : Option Value → px_H → Prop} : ∀ (m j : Nat), j + m = Bn → px_PW 2 pc_182 Q 51 [some (.ref 1000), some (.int (nI k)), some (.int (nI (zz_run (s_mro F k Br) m j)))] [] ([], px_MH (upd Z 5 (nI P)) (va_up (va_up (va_up F 0 f) 8 A) 9 B)) → px_PW 2 pc_182 Q 7 [some (.ref 1000), some (.int (nI k)), some (.int (nI j))] [] ([], px_MH (upd Z 5 (nI P)) (va_up (va_up (va_up F 0 f) 8 A) 9 B))
  | m, j, hj, H => by
    refine px_PW.steps kt_182.2 4 rfl ?_
    refine px_PW.aldN kt_182.2 rfl rfl (n := k) rfl hk ?_
    rw [show (va_up (va_up (va_up F 0 f) 8 A) 9 B) 12 k = nI S from hS]
    refine px_PW.steps kt_182.2 1 rfl ?_
    refine px_PW.br (fun c0 => ?_) (fun c0 => ?_)
    · have c0 : (nI S) ≤ (nI j) := of_decide_eq_true c0
      have c0 : S ≤ j := (nI_leI (a := S) (b := j) (by omega) (by omega)).mp c0
      obtain rfl : m = 0 := by omega
      exact H
    · have c0 : ¬ ((nI S) ≤ (nI j)) := of_decide_eq_false c0
      have c0 : ¬ (S ≤ j) := fun q => c0 ((nI_leI (a := S) (b := j) (by omega) (by omega)).mpr q)
      refine px_PW.steps kt_182.2 4 rfl ?_
      refine px_PW.br (fun c1 => ?_) (fun c1 => ?_)
      · have c1 : (nI P) ≤ (nI j) := of_decide_eq_true c1
        have c1 : P ≤ j := (nI_leI (a := P) (b := j) (by omega) (by omega)).mp c1
        obtain rfl : m = 0 := by omega
        exact H
      · have c1 : ¬ ((nI P) ≤ (nI j)) := of_decide_eq_false c1
        have c1 : ¬ (P ≤ j) := fun q => c1 ((nI_leI (a := P) (b := j) (by omega) (by omega)).mpr q)
        obtain ⟨m2, rfl⟩ : ∃ m2, m = m2 + 1 := ⟨m - 1, by omega⟩
        refine px_PW.steps kt_182.2 7 rfl ?_
        refine px_PW.aldN kt_182.2 rfl rfl (n := 24 * k + j) (px_ixS rfl) (by omega) ?_
        refine px_PW.steps kt_182.2 3 rfl ?_
        refine px_PW.aldN kt_182.2 rfl rfl (n := j) rfl (by omega) ?_
        rw [show (va_up (va_up (va_up F 0 f) 8 A) 9 B) 9 j = Br j from (hAB j (by omega)).2]
        refine px_PW.steps kt_182.2 1 rfl ?_
        refine px_PW.br (fun c2 => ?_) (fun c2 => ?_)
        · have c2 : ¬ ((F 13 (24 * k + j)) = (Br j)) := of_decide_eq_false (px_nt c2)
          rw [zz_run_n (show ¬ (s_mro F k Br j = true) from fun q => c2 (of_decide_eq_true q))] at H
          exact H
        · have c2 : (F 13 (24 * k + j)) = (Br j) := of_decide_eq_true (px_nf c2)
          refine px_PW.steps kt_182.2 2 rfl ?_
          rw [zz_run_y (show s_mro F k Br j = true from decide_eq_true c2)] at H
          have g := m_ro_loop hk hS hS24 hP hAB hB (Z := Z) (f := f) (Q := Q) m2 (j + 1) (by omega) H
          rw [nI_succ j] at g
          exact g
theorem mm_ro {Z f A B : Nat → Int32} {F : Nat → Nat → Int32} {p : Int32} {k S T J e w P : Nat} (hk : k < 4) (hS : F 12 k = nI S) (hS24 : S ≤ 24) (hT : f 1 = nI T) (hJ : f 2 = nI J) (hT2 : T ≤ 200) (hJ9 : J ≤ 9) (h : r_row f T J 0 e w P) : px_PM 3 182 [.ref 1000, .int (nI k)] ([], px_MH (upd Z 5 p) (va_up (va_up (va_up F 0 f) 8 A) 9 B)) (fun r h' => r = some (.int (nI (zz_run (s_mro F k (r_B e w T J)) (min S P) 0))) ∧ ∃ (A' B' : Nat → Int32), h' = ([], px_MH (upd Z 5 (nI P)) (va_up (va_up (va_up F 0 f) 8 A') 9 B'))) := by
  refine px_PM.start (nL := 3) (code := pc_182) rfl rfl ?_
  refine px_PW.steps kt_182.2 2 rfl ?_
  refine px_PW.callV kt_182.2 rfl rfl rfl rfl (mm_layR (f := f) hT hJ hT2 hJ9 h) (by decide) (fun v h1 q => ?_)
  obtain ⟨rfl, A9, B9, hAB9, rfl⟩ := q
  refine px_PW.steps kt_182.2 2 rfl ?_
  refine m_ro_loop (P := P) hk hS hS24 h.2.2.2.2.1 hAB9 rfl (min S P) 0 (by omega) ?_
  refine px_PW.steps kt_182.2 1 rfl ?_
  exact px_PW.ret kt_182.2 rfl rfl ⟨rfl, A9, B9, rfl⟩
def s_mjudge (T J : Nat) (e w P : Nat → Nat) (S : Nat) (F : Nat → Nat → Int32) (k : Nat) : Int32 := if s_lacks F k = 0 then (nI (zz_run (s_mro F k (r_B (e 0) (w 0) T J)) (min S (P 0)) 0)) else -1000000000 - 2
theorem kc_mjudge {Z : Nat → Int32} {F : Nat → Nat → Int32} {k S T J R : Nat} {e w P : Nat → Nat} (hk : k < 4) (hS : F 12 k = nI S) (hS24 : S ≤ 24) (ok : r_ok (F 0) T J R e w P) (hR1 : 1 ≤ R) : px_PM 4 200 [.ref 1000, .int (nI k)] ([], px_MH Z F) (fun r h' => r = some (.int (s_mjudge T J e w P S F k)) ∧ ∃ Z' F', px_sm Z F Z' F' ∧ h' = ([], px_MH Z' F')) := by
  refine px_PM.start (nL := 3) (code := pc_200) rfl rfl ?_
  refine px_PW.steps kt_200.2 2 rfl ?_
  refine px_PW.callV kt_200.2 rfl rfl rfl rfl (mm_lacks hk) (by decide) (fun v h1 q => ?_)
  obtain ⟨rfl, rfl⟩ := q
  refine px_PW.steps kt_200.2 3 rfl ?_
  refine px_PW.br (fun c0 => ?_) (fun c0 => ?_)
  · have c0 : (s_lacks F k) = 0 := of_decide_eq_true c0
    refine px_PW.steps kt_200.2 2 rfl ?_
    refine px_PW.hp (h' := ([], px_MH (upd Z 5 (Z 5)) (va_up (va_up (va_up F 0 (F 0)) 8 (F 8)) 9 (F 9)))) (by rw [← zz_can]) ?_
    refine px_PW.callV kt_200.2 rfl rfl rfl rfl (mm_ro (F := F) (f := F 0) hk hS hS24 ok.1 ok.2.1 ok.2.2.2.1 ok.2.2.2.2.1 (ok.2.2.2.2.2.2 0 (by omega))) (by decide) (fun v h1 q => ?_)
    obtain ⟨rfl, A9, B9, rfl⟩ := q
    refine px_PW.ret kt_200.2 rfl rfl ?_
    have E : s_mjudge T J e w P S F k = (nI (zz_run (s_mro F k (r_B (e 0) (w 0) T J)) (min S (P 0)) 0)) := if_pos c0
    rw [E]
    exact ⟨rfl, _, _, zz_sm, rfl⟩
  · have c0 : ¬ ((s_lacks F k) = 0) := of_decide_eq_false c0
    refine px_PW.steps kt_200.2 2 rfl ?_
    refine px_PW.callV kt_200.2 rfl rfl rfl rfl (mm_errorL hk c0) (by decide) (fun v h1 q => ?_)
    obtain ⟨rfl, rfl⟩ := q
    refine px_PW.steps kt_200.2 1 rfl ?_
    refine px_PW.ret kt_200.2 rfl rfl ?_
    have E : s_mjudge T J e w P S F k = (-1000000000 - 2) := if_neg c0
    rw [E]
    exact ⟨rfl, _, _, px_sm.err, rfl⟩
def s_mjudgeB (Z : Nat → Int32) (F : Nat → Nat → Int32) (sheet : Int32) : Int32 := (-1000000000 - 1)
theorem kc_mjudgeB {Z : Nat → Int32} {F : Nat → Nat → Int32}  (sheet : Int32) (hb : sheet < 0 ∨ 4 ≤ sheet) : px_PM 4 200 [.ref 1000, .int sheet] ([], px_MH Z F) (fun r h' => r = some (.int (s_mjudgeB Z F sheet)) ∧ ∃ Z' F', px_sm Z F Z' F' ∧ h' = ([], px_MH Z' F')) := by
  refine px_PM.start (nL := 3) (code := pc_200) rfl rfl ?_
  refine px_PW.steps kt_200.2 2 rfl ?_
  refine px_PW.callV kt_200.2 rfl rfl rfl rfl (mm_lacksB hb) (by decide) (fun v h1 q => ?_)
  obtain ⟨rfl, rfl⟩ := q
  refine px_PW.steps kt_200.2 3 rfl ?_
  refine px_PW.br (fun c0 => ?_) (fun c0 => ?_)
  · have c0 : (1 : Int32) = 0 := of_decide_eq_true c0
    exact absurd c0 (by decide)
  · have c0 : ¬ ((1 : Int32) = 0) := of_decide_eq_false c0
    refine px_PW.steps kt_200.2 2 rfl ?_
    refine px_PW.callV kt_200.2 rfl rfl rfl rfl (mm_error 1 (by decide)) (by decide) (fun v h1 q => ?_)
    obtain ⟨rfl, rfl⟩ := q
    refine px_PW.steps kt_200.2 1 rfl ?_
    refine px_PW.ret kt_200.2 rfl rfl ?_
    have E : s_mjudgeB Z F sheet = (-1000000000 - 1) := rfl
    rw [E]
    exact ⟨rfl, _, _, px_sm.err, rfl⟩
def r_narS (f : Nat → Int32) (T J R : Nat) (e : Nat → Nat) (w P : Nat → Nat → Nat) (s : Nat) : Int32 := c_fold (fun r => r_nar (r_B (e r) (w s r) T J) (P s r)) (fun v o => if v ≤ o then v else o) R 0 9999
def r_cutS (f : Nat → Int32) (T J R : Nat) (e : Nat → Nat) (w P : Nat → Nat → Nat) (s : Nat) : Int32 := c_fold (fun r => nI (r_cuts (f 1) (r_B (e r) (w s r) T J) (P s r))) (fun v o => v + o) R 0 0
/-- m more STARTS from k on; the first one counts in any case -/
def s_mbst (nar cut : Nat → Int32) : Nat → Nat → Nat × Int32 × Int32 → Nat × Int32 × Int32
  | 0, _, a => a
  | m + 1, k, a => s_mbst nar cut m (k + 1) (if a.1 = 0 then (k, nar k, cut k) else if a.2.1 < nar k then (k, nar k, cut k) else if nar k = a.2.1 then (if a.2.2 ≤ cut k then a else (k, nar k, cut k)) else a)
theorem m_bst_loop {Z f : Nat → Int32} {F : Nat → Nat → Int32} {T J R : Nat} {e : Nat → Nat} {w P : Nat → Nat → Nat} (hTi : f 1 = nI T) (hT2 : T ≤ 200) (ok : ∀ s : Nat, 1 ≤ s → s ≤ T → r_ok (upd f 6 (nI s)) T J R e (w s) (P s)) {what was : Int32} {Q : Option Value → px_H → Prop} : ∀ (m k : Nat) (a : Nat × Int32 × Int32) (A B : Nat → Int32) (p x : Int32) (o7 o8 : Option Value), k + m = T + 1 → 1 ≤ k → a.1 < 1000 → (∀ (A B : Nat → Int32) (p x : Int32) (k2 : Nat) (o7 o8 : Option Value), px_PW 3 pc_176 Q 110 [some (.ref 1000), some (.int what), some (.int was), some (.int (nI (s_mbst (r_narS f T J R e w P) (r_cutS f T J R e w P) m k a).1)), some (.int (s_mbst (r_narS f T J R e w P) (r_cutS f T J R e w P) m k a).2.1), some (.int (s_mbst (r_narS f T J R e w P) (r_cutS f T J R e w P) m k a).2.2), some (.int (nI k2)), o7, o8] [] ([], px_MH (upd Z 5 p) (va_up (va_up (va_up F 0 (upd f 6 x)) 8 A) 9 B))) → px_PW 3 pc_176 Q 34 [some (.ref 1000), some (.int what), some (.int was), some (.int (nI a.1)), some (.int a.2.1), some (.int a.2.2), some (.int (nI k)), o7, o8] [] ([], px_MH (upd Z 5 p) (va_up (va_up (va_up F 0 (upd f 6 x)) 8 A) 9 B))
  | m, k, a, A, B, p, x, o7, o8, hk, hk1, ha, H => by
    refine px_PW.steps kt_176.2 4 rfl ?_
    refine px_PW.steps kt_176.2 1 rfl ?_
    refine px_PW.steps kt_176.2 1 rfl ?_
    refine px_PW.br (fun c0 => ?_) (fun c0 => ?_)
    · have c0 : ((upd f 6 x) 1) < (nI k) := of_decide_eq_true c0
      have c0 : T < k := (nI_ltI (a := T) (b := k) (by omega) (by omega)).mp (by rw [← hTi]; exact c0)
      obtain rfl : m = 0 := by omega
      exact H _ _ _ _ _ _ _
    · have c0 : ¬ (((upd f 6 x) 1) < (nI k)) := of_decide_eq_false c0
      have c0 : ¬ (T < k) := fun q => c0 (show f 1 < nI k from by rw [hTi]; exact (nI_ltI (a := T) (b := k) (by omega) (by omega)).mpr q)
      obtain ⟨m2, rfl⟩ : ∃ m2, m = m2 + 1 := ⟨m - 1, by omega⟩
      refine px_PW.steps kt_176.2 4 rfl ?_
      refine mr_0 kt_176.2 rfl (n := 6) rfl (by decide) ?_
      rw [zz_uu]
      refine px_PW.steps kt_176.2 2 rfl ?_
      refine px_PW.callV kt_176.2 rfl rfl rfl rfl (mm_all1 (f := upd f 6 (nI k)) (ok k (by omega) (by omega))) (by decide) (fun v h1 q => ?_)
      obtain ⟨rfl, A21, B21, p21, rfl⟩ := q
      refine px_PW.steps kt_176.2 3 rfl ?_
      refine px_PW.callV kt_176.2 rfl rfl rfl rfl (mm_all0 (f := upd f 6 (nI k)) (ok k (by omega) (by omega))) (by decide) (fun v h1 q => ?_)
      obtain ⟨rfl, A20, B20, p20, rfl⟩ := q
      refine px_PW.steps kt_176.2 3 rfl ?_
      refine px_PW.br (fun c1 => ?_) (fun c1 => ?_)
      · have c1 : (nI a.1) = 0 := of_decide_eq_true c1
        have c1 : a.1 = 0 := (nI_eq (b := 0) (by omega) (by omega)).mp c1
        refine px_PW.steps kt_176.2 8 rfl ?_
        have e0 : s_mbst (r_narS f T J R e w P) (r_cutS f T J R e w P) (m2 + 1) k a = s_mbst (r_narS f T J R e w P) (r_cutS f T J R e w P) m2 (k + 1) (k, (r_narS f T J R e w P) k, (r_cutS f T J R e w P) k) := congrArg (s_mbst (r_narS f T J R e w P) (r_cutS f T J R e w P) m2 (k + 1)) (if_pos c1)
        have g := m_bst_loop hTi hT2 ok (Z := Z) (F := F) (what := what) (was := was) (Q := Q) m2 (k + 1) (k, (r_narS f T J R e w P) k, (r_cutS f T J R e w P) k) A20 B20 p20 (nI k) (some (.int ((r_narS f T J R e w P) k))) (some (.int ((r_cutS f T J R e w P) k))) (by omega) (by omega) (by first | exact ha | (show k < 1000; omega)) (fun A B p x k9 o7 o8 => by have h := H A B p x k9 o7 o8; rw [e0] at h; exact h)
        rw [nI_succ k] at g
        exact g
      · have c1 : ¬ ((nI a.1) = 0) := of_decide_eq_false c1
        have c1 : ¬ (a.1 = 0) := fun q => c1 (by rw [q]; rfl)
        refine px_PW.steps kt_176.2 3 rfl ?_
        refine px_PW.br (fun c2 => ?_) (fun c2 => ?_)
        · have c2 : a.2.1 < ((r_narS f T J R e w P) k) := of_decide_eq_true c2
          refine px_PW.steps kt_176.2 8 rfl ?_
          have e0 : s_mbst (r_narS f T J R e w P) (r_cutS f T J R e w P) (m2 + 1) k a = s_mbst (r_narS f T J R e w P) (r_cutS f T J R e w P) m2 (k + 1) (k, (r_narS f T J R e w P) k, (r_cutS f T J R e w P) k) := congrArg (s_mbst (r_narS f T J R e w P) (r_cutS f T J R e w P) m2 (k + 1)) ((if_neg c1).trans (if_pos c2))
          have g := m_bst_loop hTi hT2 ok (Z := Z) (F := F) (what := what) (was := was) (Q := Q) m2 (k + 1) (k, (r_narS f T J R e w P) k, (r_cutS f T J R e w P) k) A20 B20 p20 (nI k) (some (.int ((r_narS f T J R e w P) k))) (some (.int ((r_cutS f T J R e w P) k))) (by omega) (by omega) (by first | exact ha | (show k < 1000; omega)) (fun A B p x k9 o7 o8 => by have h := H A B p x k9 o7 o8; rw [e0] at h; exact h)
          rw [nI_succ k] at g
          exact g
        · have c2 : ¬ (a.2.1 < ((r_narS f T J R e w P) k)) := of_decide_eq_false c2
          refine px_PW.steps kt_176.2 3 rfl ?_
          refine px_PW.br (fun c3 => ?_) (fun c3 => ?_)
          · have c3 : ¬ (((r_narS f T J R e w P) k) = a.2.1) := of_decide_eq_false (px_nt c3)
            refine px_PW.steps kt_176.2 2 rfl ?_
            have e0 : s_mbst (r_narS f T J R e w P) (r_cutS f T J R e w P) (m2 + 1) k a = s_mbst (r_narS f T J R e w P) (r_cutS f T J R e w P) m2 (k + 1) a := congrArg (s_mbst (r_narS f T J R e w P) (r_cutS f T J R e w P) m2 (k + 1)) ((if_neg c1).trans ((if_neg c2).trans (if_neg c3)))
            have g := m_bst_loop hTi hT2 ok (Z := Z) (F := F) (what := what) (was := was) (Q := Q) m2 (k + 1) a A20 B20 p20 (nI k) (some (.int ((r_narS f T J R e w P) k))) (some (.int ((r_cutS f T J R e w P) k))) (by omega) (by omega) (by first | exact ha | (show k < 1000; omega)) (fun A B p x k9 o7 o8 => by have h := H A B p x k9 o7 o8; rw [e0] at h; exact h)
            rw [nI_succ k] at g
            exact g
          · have c3 : ((r_narS f T J R e w P) k) = a.2.1 := of_decide_eq_true (px_nf c3)
            refine px_PW.steps kt_176.2 3 rfl ?_
            refine px_PW.br (fun c4 => ?_) (fun c4 => ?_)
            · have c4 : a.2.2 ≤ ((r_cutS f T J R e w P) k) := of_decide_eq_true c4
              refine px_PW.steps kt_176.2 2 rfl ?_
              have e0 : s_mbst (r_narS f T J R e w P) (r_cutS f T J R e w P) (m2 + 1) k a = s_mbst (r_narS f T J R e w P) (r_cutS f T J R e w P) m2 (k + 1) a := congrArg (s_mbst (r_narS f T J R e w P) (r_cutS f T J R e w P) m2 (k + 1)) ((if_neg c1).trans ((if_neg c2).trans ((if_pos c3).trans (if_pos c4))))
              have g := m_bst_loop hTi hT2 ok (Z := Z) (F := F) (what := what) (was := was) (Q := Q) m2 (k + 1) a A20 B20 p20 (nI k) (some (.int ((r_narS f T J R e w P) k))) (some (.int ((r_cutS f T J R e w P) k))) (by omega) (by omega) (by first | exact ha | (show k < 1000; omega)) (fun A B p x k9 o7 o8 => by have h := H A B p x k9 o7 o8; rw [e0] at h; exact h)
              rw [nI_succ k] at g
              exact g
            · have c4 : ¬ (a.2.2 ≤ ((r_cutS f T J R e w P) k)) := of_decide_eq_false c4
              refine px_PW.steps kt_176.2 8 rfl ?_
              have e0 : s_mbst (r_narS f T J R e w P) (r_cutS f T J R e w P) (m2 + 1) k a = s_mbst (r_narS f T J R e w P) (r_cutS f T J R e w P) m2 (k + 1) (k, (r_narS f T J R e w P) k, (r_cutS f T J R e w P) k) := congrArg (s_mbst (r_narS f T J R e w P) (r_cutS f T J R e w P) m2 (k + 1)) ((if_neg c1).trans ((if_neg c2).trans ((if_pos c3).trans (if_neg c4))))
              have g := m_bst_loop hTi hT2 ok (Z := Z) (F := F) (what := what) (was := was) (Q := Q) m2 (k + 1) (k, (r_narS f T J R e w P) k, (r_cutS f T J R e w P) k) A20 B20 p20 (nI k) (some (.int ((r_narS f T J R e w P) k))) (some (.int ((r_cutS f T J R e w P) k))) (by omega) (by omega) (by first | exact ha | (show k < 1000; omega)) (fun A B p x k9 o7 o8 => by have h := H A B p x k9 o7 o8; rw [e0] at h; exact h)
              rw [nI_succ k] at g
              exact g
def s_mbest (T J R : Nat) (e : Nat → Nat) (w P : Nat → Nat → Nat) (F : Nat → Nat → Int32) (what : Int32) : Int32 := if 0 ≤ what ∧ what ≤ 2 then (if what = 0 then nI (s_mbst (r_narS (F 0) T J R e w P) (r_cutS (F 0) T J R e w P) T 1 (0, 0, 0)).1 else if what = 1 then (s_mbst (r_narS (F 0) T J R e w P) (r_cutS (F 0) T J R e w P) T 1 (0, 0, 0)).2.1 else (s_mbst (r_narS (F 0) T J R e w P) (r_cutS (F 0) T J R e w P) T 1 (0, 0, 0)).2.2) else -1000000000 - 1
theorem kc_mbest {Z : Nat → Int32} {F : Nat → Nat → Int32} {T J R : Nat} {e : Nat → Nat} {w P : Nat → Nat → Nat} (hTi : (F 0) 1 = nI T) (hT2 : T ≤ 200) (ok : ∀ s : Nat, 1 ≤ s → s ≤ T → r_ok (upd (F 0) 6 (nI s)) T J R e (w s) (P s)) (what : Int32) : px_PM 4 176 [.ref 1000, .int what] ([], px_MH Z F) (fun r h' => r = some (.int (s_mbest T J R e w P F what)) ∧ ∃ Z' F', px_sm Z F Z' F' ∧ h' = ([], px_MH Z' F')) := by
  refine px_PM.start (nL := 9) (code := pc_176) rfl rfl ?_
  refine px_PW.steps kt_176.2 3 rfl ?_
  refine px_PW.callS kt_176.2 rfl rfl rfl (cm_117 _ _ _ _) (by decide) (fun v h1 q => ?_)
  obtain ⟨rfl, rfl⟩ := q
  refine px_PW.steps kt_176.2 1 rfl ?_
  refine px_PW.br (fun c0 => ?_) (fun c0 => ?_)
  · have c0 : 0 ≤ what ∧ what ≤ 2 := px_b1n (of_decide_eq_false (px_nt c0))
    refine px_PW.steps kt_176.2 3 rfl ?_
    refine px_PW.steps kt_176.2 1 rfl ?_
    refine px_PW.steps kt_176.2 9 rfl ?_
    refine px_PW.hp (h' := ([], px_MH (upd Z 5 (Z 5)) (va_up (va_up (va_up F 0 (upd (F 0) 6 (F 0 6))) 8 (F 8)) 9 (F 9)))) (by rw [zz_ui (F 0) 6, ← zz_can]) ?_
    refine m_bst_loop (f := F 0) hTi hT2 ok (what := what) T 1 (0, 0, 0) (F 8) (F 9) (Z 5) (F 0 6) none none (by omega) (by omega) (by decide) (fun A B p x k9 o7 o8 => ?_)
    refine px_PW.steps kt_176.2 4 rfl ?_
    refine mr_0 kt_176.2 rfl (n := 6) rfl (by decide) ?_
    first | rw [zz_uu, show upd (F 0) 6 (F 0 (Int32.toNatClampNeg 6)) = F 0 from zz_ui (F 0) 6] | rw [zz_uu, zz_ui]
    refine px_PW.steps kt_176.2 2 rfl ?_
    refine px_PW.br (fun c1 => ?_) (fun c1 => ?_)
    · have c1 : ¬ (what = 0) := of_decide_eq_false (px_nt c1)
      refine px_PW.steps kt_176.2 3 rfl ?_
      refine px_PW.br (fun c2 => ?_) (fun c2 => ?_)
      · have c2 : ¬ (what = 1) := of_decide_eq_false (px_nt c2)
        refine px_PW.steps kt_176.2 1 rfl ?_
        refine px_PW.ret kt_176.2 rfl rfl ?_
        have E : s_mbest T J R e w P F what = (s_mbst (r_narS (F 0) T J R e w P) (r_cutS (F 0) T J R e w P) T 1 (0, 0, 0)).2.2 := (if_pos c0).trans ((if_neg c1).trans (if_neg c2))
        rw [E]
        exact ⟨rfl, _, _, zz_sm, rfl⟩
      · have c2 : what = 1 := of_decide_eq_true (px_nf c2)
        refine px_PW.steps kt_176.2 2 rfl ?_
        refine px_PW.ret kt_176.2 rfl rfl ?_
        have E : s_mbest T J R e w P F what = (s_mbst (r_narS (F 0) T J R e w P) (r_cutS (F 0) T J R e w P) T 1 (0, 0, 0)).2.1 := (if_pos c0).trans ((if_neg c1).trans (if_pos c2))
        rw [E]
        exact ⟨rfl, _, _, zz_sm, rfl⟩
    · have c1 : what = 0 := of_decide_eq_true (px_nf c1)
      refine px_PW.steps kt_176.2 2 rfl ?_
      refine px_PW.ret kt_176.2 rfl rfl ?_
      have E : s_mbest T J R e w P F what = (nI (s_mbst (r_narS (F 0) T J R e w P) (r_cutS (F 0) T J R e w P) T 1 (0, 0, 0)).1) := (if_pos c0).trans (if_pos c1)
      rw [E]
      exact ⟨rfl, _, _, zz_sm, rfl⟩
  · have c0 : ¬ (0 ≤ what ∧ what ≤ 2) := px_b1z (of_decide_eq_true (px_nf c0))
    refine px_PW.steps kt_176.2 2 rfl ?_
    refine px_PW.callV kt_176.2 rfl rfl rfl rfl (mm_error 1 (by decide)) (by decide) (fun v h1 q => ?_)
    obtain ⟨rfl, rfl⟩ := q
    refine px_PW.ret kt_176.2 rfl rfl ?_
    have E : s_mbest T J R e w P F what = (-1000000000 - 1) := if_neg c0
    rw [E]
    exact ⟨rfl, _, _, px_sm.err, rfl⟩
theorem m_odd_loop {Z f : Nat → Int32} {F : Nat → Nat → Int32} {T J R : Nat} {e : Nat → Nat} {w P : Nat → Nat → Nat} (hTi : f 1 = nI T) (hT2 : T ≤ 200) (ok : ∀ s : Nat, 1 ≤ s → s ≤ T → r_ok (upd f 6 (nI s)) T J R e (w s) (P s)) {v part was : Int32} {Q : Option Value → px_H → Prop} : ∀ (m k n : Nat) (A B : Nat → Int32) (p x : Int32), k + m = T + 1 → 1 ≤ k → (∀ (A B : Nat → Int32) (p x : Int32) (k2 : Nat), px_PW 3 pc_181 Q 85 [some (.ref 1000), some (.int v), some (.int part), some (.int was), some (.int (nI (s_odd (r_narS f T J R e w P) v m k n))), some (.int (nI k2))] [] ([], px_MH (upd Z 5 p) (va_up (va_up (va_up F 0 (upd f 6 x)) 8 A) 9 B))) → px_PW 3 pc_181 Q 40 [some (.ref 1000), some (.int v), some (.int part), some (.int was), some (.int (nI n)), some (.int (nI k))] [] ([], px_MH (upd Z 5 p) (va_up (va_up (va_up F 0 (upd f 6 x)) 8 A) 9 B))
  | m, k, n, A, B, p, x, hk, hk1, H => by
    refine px_PW.steps kt_181.2 4 rfl ?_
    refine px_PW.steps kt_181.2 1 rfl ?_
    refine px_PW.steps kt_181.2 1 rfl ?_
    refine px_PW.br (fun c0 => ?_) (fun c0 => ?_)
    · have c0 : ((upd f 6 x) 1) < (nI k) := of_decide_eq_true c0
      have c0 : T < k := (nI_ltI (a := T) (b := k) (by omega) (by omega)).mp (by rw [← hTi]; exact c0)
      obtain rfl : m = 0 := by omega
      exact H _ _ _ _ _
    · have c0 : ¬ (((upd f 6 x) 1) < (nI k)) := of_decide_eq_false c0
      have c0 : ¬ (T < k) := fun q => c0 (show f 1 < nI k from by rw [hTi]; exact (nI_ltI (a := T) (b := k) (by omega) (by omega)).mpr q)
      obtain ⟨m2, rfl⟩ : ∃ m2, m = m2 + 1 := ⟨m - 1, by omega⟩
      refine px_PW.steps kt_181.2 4 rfl ?_
      refine mr_0 kt_181.2 rfl (n := 6) rfl (by decide) ?_
      rw [zz_uu]
      refine px_PW.steps kt_181.2 3 rfl ?_
      refine px_PW.callV kt_181.2 rfl rfl rfl rfl (mm_all1 (f := upd f 6 (nI k)) (ok k (by omega) (by omega))) (by decide) (fun v h1 q => ?_)
      obtain ⟨rfl, A21, B21, p21, rfl⟩ := q
      refine px_PW.steps kt_181.2 2 rfl ?_
      refine px_PW.br (fun c1 => ?_) (fun c1 => ?_)
      · have c1 : ((r_narS f T J R e w P) k) < v := of_decide_eq_true c1
        refine px_PW.steps kt_181.2 5 rfl ?_
        have e0 : s_odd (r_narS f T J R e w P) v (m2 + 1) k n = s_odd (r_narS f T J R e w P) v m2 (k + 1) n := congrArg (s_odd (r_narS f T J R e w P) v m2 (k + 1)) (if_pos c1)
        have g := m_odd_loop hTi hT2 ok (Z := Z) (F := F) (v := v) (part := part) (was := was) (Q := Q) m2 (k + 1) n A21 B21 p21 (nI k) (by omega) (by omega) (fun A B p x k9 => by have h := H A B p x k9; rw [e0] at h; exact h)
        refine px_PW.lc (lv' := [some (.ref 1000), some (.int v), some (.int part), some (.int was), some (.int (nI n)), some (.int (nI (k + 1)))]) (show ([some (.ref 1000), some (.int v), some (.int part), some (.int was), some (.int (nI n + 0)), some (.int (nI k + 1))] : px_L) = _ from by rw [← nI_succ k, Int32.add_zero]) ?_
        exact g
      · have c1 : ¬ (((r_narS f T J R e w P) k) < v) := of_decide_eq_false c1
        refine px_PW.steps kt_181.2 6 rfl ?_
        have e0 : s_odd (r_narS f T J R e w P) v (m2 + 1) k n = s_odd (r_narS f T J R e w P) v m2 (k + 1) (n + 1) := congrArg (s_odd (r_narS f T J R e w P) v m2 (k + 1)) (if_neg c1)
        have g := m_odd_loop hTi hT2 ok (Z := Z) (F := F) (v := v) (part := part) (was := was) (Q := Q) m2 (k + 1) (n + 1) A21 B21 p21 (nI k) (by omega) (by omega) (fun A B p x k9 => by have h := H A B p x k9; rw [e0] at h; exact h)
        refine px_PW.lc (lv' := [some (.ref 1000), some (.int v), some (.int part), some (.int was), some (.int (nI (n + 1))), some (.int (nI (k + 1)))]) (show ([some (.ref 1000), some (.int v), some (.int part), some (.int was), some (.int (nI n + 1)), some (.int (nI k + 1))] : px_L) = _ from by rw [← nI_succ k, ← nI_succ n]) ?_
        exact g
def s_modds (T J R : Nat) (e : Nat → Nat) (w P : Nat → Nat → Nat) (F : Nat → Nat → Int32) (v part : Int32) : Int32 := if 0 ≤ v ∧ v ≤ 200 then (if 0 ≤ part ∧ part ≤ 1 then (if part = 0 then nI ((s_odd (r_narS (F 0) T J R e w P) v T 1 0) / Nat.gcd (s_odd (r_narS (F 0) T J R e w P) v T 1 0) T) else nI (T / Nat.gcd (s_odd (r_narS (F 0) T J R e w P) v T 1 0) T)) else -1000000000 - 1) else -1000000000 - 1
theorem kc_modds {Z : Nat → Int32} {F : Nat → Nat → Int32} {T J R : Nat} {e : Nat → Nat} {w P : Nat → Nat → Nat} (hTi : (F 0) 1 = nI T) (hT2 : T ≤ 200) (ok : ∀ s : Nat, 1 ≤ s → s ≤ T → r_ok (upd (F 0) 6 (nI s)) T J R e (w s) (P s)) (hT1 : 1 ≤ T) (v part : Int32) : px_PM 4 181 [.ref 1000, .int v, .int part] ([], px_MH Z F) (fun r h' => r = some (.int (s_modds T J R e w P F v part)) ∧ ∃ Z' F', px_sm Z F Z' F' ∧ h' = ([], px_MH Z' F')) := by
  refine px_PM.start (nL := 6) (code := pc_181) rfl rfl ?_
  refine px_PW.steps kt_181.2 3 rfl ?_
  refine px_PW.callS kt_181.2 rfl rfl rfl (cm_117 _ _ _ _) (by decide) (fun v h1 q => ?_)
  obtain ⟨rfl, rfl⟩ := q
  refine px_PW.steps kt_181.2 1 rfl ?_
  refine px_PW.br (fun c0 => ?_) (fun c0 => ?_)
  · have c0 : ¬ (0 ≤ v ∧ v ≤ 200) := px_b1z (of_decide_eq_true c0)
    refine px_PW.steps kt_181.2 2 rfl ?_
    refine px_PW.callV kt_181.2 rfl rfl rfl rfl (mm_error 1 (by decide)) (by decide) (fun v h1 q => ?_)
    obtain ⟨rfl, rfl⟩ := q
    refine px_PW.ret kt_181.2 rfl rfl ?_
    have E : s_modds T J R e w P F v part = (-1000000000 - 1) := if_neg c0
    rw [E]
    exact ⟨rfl, _, _, px_sm.err, rfl⟩
  · have c0 : 0 ≤ v ∧ v ≤ 200 := px_b1n (of_decide_eq_false c0)
    refine px_PW.steps kt_181.2 3 rfl ?_
    refine px_PW.callS kt_181.2 rfl rfl rfl (cm_117 _ _ _ _) (by decide) (fun v h1 q => ?_)
    obtain ⟨rfl, rfl⟩ := q
    refine px_PW.steps kt_181.2 1 rfl ?_
    refine px_PW.br (fun c1 => ?_) (fun c1 => ?_)
    · have c1 : 0 ≤ part ∧ part ≤ 1 := px_b1n (of_decide_eq_false (px_nt c1))
      refine px_PW.steps kt_181.2 3 rfl ?_
      refine px_PW.steps kt_181.2 1 rfl ?_
      refine px_PW.steps kt_181.2 5 rfl ?_
      refine px_PW.hp (h' := ([], px_MH (upd Z 5 (Z 5)) (va_up (va_up (va_up F 0 (upd (F 0) 6 (F 0 6))) 8 (F 8)) 9 (F 9)))) (by rw [zz_ui (F 0) 6, ← zz_can]) ?_
      refine m_odd_loop (f := F 0) hTi hT2 ok (v := v) (part := part) T 1 0 (F 8) (F 9) (Z 5) (F 0 6) (by omega) (by omega) (fun A B p x k9 => ?_)
      refine px_PW.steps kt_181.2 4 rfl ?_
      refine mr_0 kt_181.2 rfl (n := 6) rfl (by decide) ?_
      first | rw [zz_uu, show upd (F 0) 6 (F 0 (Int32.toNatClampNeg 6)) = F 0 from zz_ui (F 0) 6] | rw [zz_uu, zz_ui]
      refine px_PW.steps kt_181.2 4 rfl ?_
      refine px_PW.steps kt_181.2 1 rfl ?_
      refine px_PW.callS kt_181.2 rfl rfl rfl (mm_div (x := (s_odd (r_narS (F 0) T J R e w P) v T 1 0)) (y := T) (by have := s_odd_le (r_narS (F 0) T J R e w P) v T 1 0; omega) (by omega) rfl (show _ = nI T from hTi) _) (by decide) (fun v h1 q => ?_)
      obtain ⟨rfl, rfl⟩ := q
      refine px_PW.steps kt_181.2 3 rfl ?_
      refine px_PW.br (fun c2 => ?_) (fun c2 => ?_)
      · have c2 : ¬ (part = 0) := of_decide_eq_false (px_nt c2)
        refine px_PW.steps kt_181.2 3 rfl ?_
        refine px_PW.steps kt_181.2 1 rfl ?_
        refine px_PW.steps kt_181.2 1 rfl ?_
        have hg1 : 0 < Nat.gcd (s_odd (r_narS (F 0) T J R e w P) v T 1 0) T := Nat.gcd_pos_of_pos_right _ (by omega)
        have hg2 : Nat.gcd (s_odd (r_narS (F 0) T J R e w P) v T 1 0) T ≤ T := Nat.gcd_le_right _ (by omega)
        have ho := s_odd_le (r_narS (F 0) T J R e w P) v T 1 0
        refine px_PW.divN kt_181.2 rfl (a := T) (b := Nat.gcd (s_odd (r_narS (F 0) T J R e w P) v T 1 0) T) (show _ = nI T from hTi) rfl (by omega) hg1 (by omega) ?_
        refine px_PW.ret kt_181.2 rfl rfl ?_
        have E : s_modds T J R e w P F v part = (nI (T / Nat.gcd (s_odd (r_narS (F 0) T J R e w P) v T 1 0) T)) := (if_pos c0).trans ((if_pos c1).trans (if_neg c2))
        rw [E]
        exact ⟨rfl, _, _, zz_sm, rfl⟩
      · have c2 : part = 0 := of_decide_eq_true (px_nf c2)
        refine px_PW.steps kt_181.2 2 rfl ?_
        have hg1 : 0 < Nat.gcd (s_odd (r_narS (F 0) T J R e w P) v T 1 0) T := Nat.gcd_pos_of_pos_right _ (by omega)
        have hg2 : Nat.gcd (s_odd (r_narS (F 0) T J R e w P) v T 1 0) T ≤ T := Nat.gcd_le_right _ (by omega)
        have ho := s_odd_le (r_narS (F 0) T J R e w P) v T 1 0
        refine px_PW.divN kt_181.2 rfl (a := (s_odd (r_narS (F 0) T J R e w P) v T 1 0)) (b := Nat.gcd (s_odd (r_narS (F 0) T J R e w P) v T 1 0) T) rfl rfl (by omega) hg1 (by omega) ?_
        refine px_PW.steps kt_181.2 1 rfl ?_
        refine px_PW.ret kt_181.2 rfl rfl ?_
        have E : s_modds T J R e w P F v part = (nI ((s_odd (r_narS (F 0) T J R e w P) v T 1 0) / Nat.gcd (s_odd (r_narS (F 0) T J R e w P) v T 1 0) T)) := (if_pos c0).trans ((if_pos c1).trans (if_pos c2))
        rw [E]
        exact ⟨rfl, _, _, zz_sm, rfl⟩
    · have c1 : ¬ (0 ≤ part ∧ part ≤ 1) := px_b1z (of_decide_eq_true (px_nf c1))
      refine px_PW.steps kt_181.2 2 rfl ?_
      refine px_PW.callV kt_181.2 rfl rfl rfl rfl (mm_error 1 (by decide)) (by decide) (fun v h1 q => ?_)
      obtain ⟨rfl, rfl⟩ := q
      refine px_PW.ret kt_181.2 rfl rfl ?_
      have E : s_modds T J R e w P F v part = (-1000000000 - 1) := (if_pos c0).trans (if_neg c1)
      rw [E]
      exact ⟨rfl, _, _, px_sm.err, rfl⟩
def r_fitG (F : Nat → Nat → Int32) (k S T J : Nat) (e : Nat → Nat) (w P : Nat → Nat → Nat) (s : Nat) : Bool := decide (nI (zz_run (s_mro F k (r_B (e 0) (w s 0) T J)) (min S (P s 0)) 0) = nI S)
theorem m_fit_loop {Z f : Nat → Int32} {F : Nat → Nat → Int32} {T J R : Nat} {e : Nat → Nat} {w P : Nat → Nat → Nat} (hTi : f 1 = nI T) (hT2 : T ≤ 200) (ok : ∀ s : Nat, 1 ≤ s → s ≤ T → r_ok (upd f 6 (nI s)) T J R e (w s) (P s)) {k S : Nat} (hk : k < 4) (hS : F 12 k = nI S) (hS24 : S ≤ 24) (hR1 : 1 ≤ R) {what why was : Int32} {Q : Option Value → px_H → Prop} : ∀ (s : Nat) (a : Int32 × Int32) (A B : Nat → Int32) (p x : Int32) (o8 : Option Value), s ≤ T → (∀ (A B : Nat → Int32) (p x : Int32) (o8 : Option Value), px_PW 3 pc_183 Q 122 [some (.ref 1000), some (.int (nI k)), some (.int what), some (.int why), some (.int was), some (.int (s_fit (r_fitG F k S T J e w P) s a).1), some (.int (s_fit (r_fitG F k S T J e w P) s a).2), some (.int (nI 0)), o8] [] ([], px_MH (upd Z 5 p) (va_up (va_up (va_up F 0 (upd f 6 x)) 8 A) 9 B))) → px_PW 3 pc_183 Q 52 [some (.ref 1000), some (.int (nI k)), some (.int what), some (.int why), some (.int was), some (.int a.1), some (.int a.2), some (.int (nI s)), o8] [] ([], px_MH (upd Z 5 p) (va_up (va_up (va_up F 0 (upd f 6 x)) 8 A) 9 B))
  | s, a, A, B, p, x, o8, hs, H => by
    refine px_PW.steps kt_183.2 2 rfl ?_
    refine px_PW.br (fun c0 => ?_) (fun c0 => ?_)
    · have c0 : (nI s) ≤ 0 := of_decide_eq_true c0
      have c0 : s ≤ 0 := (nI_leI (a := s) (b := 0) (by omega) (by omega)).mp c0
      obtain rfl : s = 0 := by omega
      exact H _ _ _ _ _
    · have c0 : ¬ ((nI s) ≤ 0) := of_decide_eq_false c0
      have c0 : ¬ (s ≤ 0) := fun q => c0 ((nI_leI (a := s) (b := 0) (by omega) (by omega)).mpr q)
      refine px_PW.steps kt_183.2 4 rfl ?_
      refine mr_0 kt_183.2 rfl (n := 6) rfl (by decide) ?_
      rw [zz_uu]
      refine px_PW.steps kt_183.2 2 rfl ?_
      refine px_PW.callV kt_183.2 rfl rfl rfl rfl (mm_ro (F := F) (f := upd f 6 (nI s)) hk hS hS24 (ok s (by omega) hs).1 (ok s (by omega) hs).2.1 (ok s (by omega) hs).2.2.2.1 (ok s (by omega) hs).2.2.2.2.1 ((ok s (by omega) hs).2.2.2.2.2.2 0 (by omega))) (by decide) (fun v h1 q => ?_)
      obtain ⟨rfl, A9, B9, rfl⟩ := q
      refine px_PW.steps kt_183.2 3 rfl ?_
      refine px_PW.aldN kt_183.2 rfl rfl (n := k) rfl hk ?_
      rw [show (va_up (va_up (va_up F 0 (upd f 6 (nI s))) 8 A9) 9 B9) 12 k = nI S from hS]
      refine px_PW.steps kt_183.2 1 rfl ?_
      refine px_PW.br (fun c1 => ?_) (fun c1 => ?_)
      · have c1 : ¬ ((nI (zz_run (s_mro F k (r_B (e 0) (w s 0) T J)) (min S (P s 0)) 0)) = (nI S)) := of_decide_eq_false (px_nt c1)
        refine px_PW.steps kt_183.2 5 rfl ?_
        refine px_PW.br (fun c2 => ?_) (fun c2 => ?_)
        · have c2 : (0 : Int32) = 0 := of_decide_eq_true c2
          refine px_PW.steps kt_183.2 5 rfl ?_
          refine px_PW.br (fun c3 => ?_) (fun c3 => ?_)
          · have c3 : (0 : Int32) = 0 := of_decide_eq_true c3
            refine px_PW.steps kt_183.2 4 rfl ?_
            obtain ⟨t, ht⟩ : ∃ t, s = t + 1 := ⟨s - 1, by omega⟩
            have e0 : s_fit (r_fitG F k S T J e w P) s a = s_fit (r_fitG F k S T J e w P) t a := by subst ht; exact congrArg (s_fit (r_fitG F k S T J e w P) t) (if_neg (fun h => c1 (of_decide_eq_true h)))
            have g := m_fit_loop hTi hT2 ok hk hS hS24 hR1 (Z := Z) (what := what) (why := why) (was := was) (Q := Q) t a A9 B9 (nI (P s 0)) (nI s) (some (.int 0)) (by omega) (fun A B p x o8 => by have h := H A B p x o8; rw [e0] at h; exact h)
            have e : nI s + -1 = nI t := by rw [ht]; exact zz_dec t
            refine px_PW.lc (lv' := [some (.ref 1000), some (.int (nI k)), some (.int what), some (.int why), some (.int was), some (.int a.1), some (.int a.2), some (.int (nI t)), some (.int 0)]) (show ([some (.ref 1000), some (.int (nI k)), some (.int what), some (.int why), some (.int was), some (.int (a.1 + 0)), some (.int a.2), some (.int (nI s + -1)), some (.int 0)] : px_L) = _ from by rw [e, Int32.add_zero]) ?_
            exact g
          · have c3 : ¬ ((0 : Int32) = 0) := of_decide_eq_false c3
            exact absurd (by decide) c3
        · have c2 : ¬ ((0 : Int32) = 0) := of_decide_eq_false c2
          exact absurd (by decide) c2
      · have c1 : (nI (zz_run (s_mro F k (r_B (e 0) (w s 0) T J)) (min S (P s 0)) 0)) = (nI S) := of_decide_eq_true (px_nf c1)
        refine px_PW.steps kt_183.2 6 rfl ?_
        refine px_PW.br (fun c4 => ?_) (fun c4 => ?_)
        · have c4 : (1 : Int32) = 0 := of_decide_eq_true c4
          exact absurd c4 (by decide)
        · have c4 : ¬ ((1 : Int32) = 0) := of_decide_eq_false c4
          refine px_PW.steps kt_183.2 6 rfl ?_
          refine px_PW.br (fun c5 => ?_) (fun c5 => ?_)
          · have c5 : (1 : Int32) = 0 := of_decide_eq_true c5
            exact absurd c5 (by decide)
          · have c5 : ¬ ((1 : Int32) = 0) := of_decide_eq_false c5
            refine px_PW.steps kt_183.2 5 rfl ?_
            obtain ⟨t, ht⟩ : ∃ t, s = t + 1 := ⟨s - 1, by omega⟩
            have e0 : s_fit (r_fitG F k S T J e w P) s a = s_fit (r_fitG F k S T J e w P) t (a.1 + 1, nI s) := by subst ht; exact congrArg (s_fit (r_fitG F k S T J e w P) t) (if_pos (decide_eq_true c1))
            have g := m_fit_loop hTi hT2 ok hk hS hS24 hR1 (Z := Z) (what := what) (why := why) (was := was) (Q := Q) t (a.1 + 1, nI s) A9 B9 (nI (P s 0)) (nI s) (some (.int 1)) (by omega) (fun A B p x o8 => by have h := H A B p x o8; rw [e0] at h; exact h)
            have e : nI s + -1 = nI t := by rw [ht]; exact zz_dec t
            refine px_PW.lc (lv' := [some (.ref 1000), some (.int (nI k)), some (.int what), some (.int why), some (.int was), some (.int (a.1 + 1, nI s).1), some (.int (a.1 + 1, nI s).2), some (.int (nI t)), some (.int 1)]) (show ([some (.ref 1000), some (.int (nI k)), some (.int what), some (.int why), some (.int was), some (.int (a.1 + 1)), some (.int (nI s)), some (.int (nI s + -1)), some (.int 1)] : px_L) = _ from by rw [e]) ?_
            exact g
def s_mfits (T J : Nat) (e : Nat → Nat) (w P : Nat → Nat → Nat) (S : Nat) (F : Nat → Nat → Int32) (k : Nat) (what : Int32) : Int32 := if 0 ≤ what ∧ what ≤ 1 then (if s_lacks F k = 0 then (if what = 0 then (s_fit (r_fitG F k S T J e w P) T (0, 0)).1 else if (s_fit (r_fitG F k S T J e w P) T (0, 0)).1 = 0 then -1000000000 - 2 else (s_fit (r_fitG F k S T J e w P) T (0, 0)).2) else -1000000000 - 2) else -1000000000 - 1
theorem kc_mfits {Z : Nat → Int32} {F : Nat → Nat → Int32} {T J R : Nat} {e : Nat → Nat} {w P : Nat → Nat → Nat} (hTi : (F 0) 1 = nI T) (hT2 : T ≤ 200) (ok : ∀ s : Nat, 1 ≤ s → s ≤ T → r_ok (upd (F 0) 6 (nI s)) T J R e (w s) (P s)) {k S : Nat} (hk : k < 4) (hS : F 12 k = nI S) (hS24 : S ≤ 24) (hR1 : 1 ≤ R) (what : Int32) : px_PM 4 183 [.ref 1000, .int (nI k), .int what] ([], px_MH Z F) (fun r h' => r = some (.int (s_mfits T J e w P S F k what)) ∧ ∃ Z' F', px_sm Z F Z' F' ∧ h' = ([], px_MH Z' F')) := by
  refine px_PM.start (nL := 9) (code := pc_183) rfl rfl ?_
  refine px_PW.steps kt_183.2 3 rfl ?_
  refine px_PW.callS kt_183.2 rfl rfl rfl (cm_117 _ _ _ _) (by decide) (fun v h1 q => ?_)
  obtain ⟨rfl, rfl⟩ := q
  refine px_PW.steps kt_183.2 1 rfl ?_
  refine px_PW.br (fun c0 => ?_) (fun c0 => ?_)
  · have c0 : ¬ (0 ≤ what ∧ what ≤ 1) := px_b1z (of_decide_eq_true c0)
    refine px_PW.steps kt_183.2 4 rfl ?_
    refine px_PW.br (fun c1 => ?_) (fun c1 => ?_)
    · have c1 : (1 : Int32) = 0 := of_decide_eq_true c1
      exact absurd c1 (by decide)
    · have c1 : ¬ ((1 : Int32) = 0) := of_decide_eq_false c1
      refine px_PW.steps kt_183.2 2 rfl ?_
      refine px_PW.callV kt_183.2 rfl rfl rfl rfl (mm_error 1 (by decide)) (by decide) (fun v h1 q => ?_)
      obtain ⟨rfl, rfl⟩ := q
      refine px_PW.ret kt_183.2 rfl rfl ?_
      have E : s_mfits T J e w P S F k what = (-1000000000 - 1) := if_neg c0
      rw [E]
      exact ⟨rfl, _, _, px_sm.err, rfl⟩
  · have c0 : 0 ≤ what ∧ what ≤ 1 := px_b1n (of_decide_eq_false c0)
    refine px_PW.steps kt_183.2 2 rfl ?_
    refine px_PW.callV kt_183.2 rfl rfl rfl rfl (mm_lacks hk) (by decide) (fun v h1 q => ?_)
    obtain ⟨rfl, rfl⟩ := q
    refine px_PW.steps kt_183.2 4 rfl ?_
    refine px_PW.br (fun c2 => ?_) (fun c2 => ?_)
    · have c2 : (s_lacks F k) = 0 := of_decide_eq_true c2
      refine px_PW.steps kt_183.2 3 rfl ?_
      refine px_PW.steps kt_183.2 1 rfl ?_
      refine px_PW.steps kt_183.2 8 rfl ?_
      refine px_PW.steps kt_183.2 1 rfl ?_
      refine px_PW.steps kt_183.2 1 rfl ?_
      refine px_PW.hp (h' := ([], px_MH (upd Z 5 (Z 5)) (va_up (va_up (va_up F 0 (upd (F 0) 6 (F 0 6))) 8 (F 8)) 9 (F 9)))) (by rw [zz_ui (F 0) 6, ← zz_can]) ?_
      refine px_PW.lc (lv' := [some (.ref 1000), some (.int (nI k)), some (.int what), some (.int (s_lacks F k)), some (.int (F 0 6)), some (.int ((0 : Int32), (0 : Int32)).1), some (.int ((0 : Int32), (0 : Int32)).2), some (.int (nI T)), none]) (by rw [← hTi]; rfl) ?_
      refine m_fit_loop (f := F 0) hTi hT2 ok hk hS hS24 hR1 (what := what) (why := s_lacks F k) (was := F 0 6) T (0, 0) (F 8) (F 9) (Z 5) (F 0 6) none (Nat.le_refl T) (fun A B p x o8 => ?_)
      refine px_PW.steps kt_183.2 4 rfl ?_
      refine mr_0 kt_183.2 rfl (n := 6) rfl (by decide) ?_
      first | rw [zz_uu, show upd (F 0) 6 (F 0 (Int32.toNatClampNeg 6)) = F 0 from zz_ui (F 0) 6] | rw [zz_uu, zz_ui]
      refine px_PW.steps kt_183.2 2 rfl ?_
      refine px_PW.br (fun c3 => ?_) (fun c3 => ?_)
      · have c3 : ¬ (what = 0) := of_decide_eq_false (px_nt c3)
        refine px_PW.steps kt_183.2 2 rfl ?_
        refine px_PW.br (fun c4 => ?_) (fun c4 => ?_)
        · have c4 : ¬ ((s_fit (r_fitG F k S T J e w P) T (0, 0)).1 = 0) := of_decide_eq_false (px_nt c4)
          refine px_PW.steps kt_183.2 1 rfl ?_
          refine px_PW.ret kt_183.2 rfl rfl ?_
          have E : s_mfits T J e w P S F k what = (s_fit (r_fitG F k S T J e w P) T (0, 0)).2 := (if_pos c0).trans ((if_pos c2).trans ((if_neg c3).trans (if_neg c4)))
          rw [E]
          exact ⟨rfl, _, _, zz_sm, rfl⟩
        · have c4 : (s_fit (r_fitG F k S T J e w P) T (0, 0)).1 = 0 := of_decide_eq_true (px_nf c4)
          refine px_PW.steps kt_183.2 2 rfl ?_
          refine px_PW.callV kt_183.2 rfl rfl rfl rfl (mm_error 2 (by decide)) (by decide) (fun v h1 q => ?_)
          obtain ⟨rfl, rfl⟩ := q
          refine px_PW.steps kt_183.2 1 rfl ?_
          refine px_PW.ret kt_183.2 rfl rfl ?_
          have E : s_mfits T J e w P S F k what = (-1000000000 - 2) := (if_pos c0).trans ((if_pos c2).trans ((if_neg c3).trans (if_pos c4)))
          rw [E]
          exact ⟨rfl, _, _, (zz_sm.tr px_sm.err), rfl⟩
      · have c3 : what = 0 := of_decide_eq_true (px_nf c3)
        refine px_PW.steps kt_183.2 2 rfl ?_
        refine px_PW.ret kt_183.2 rfl rfl ?_
        have E : s_mfits T J e w P S F k what = (s_fit (r_fitG F k S T J e w P) T (0, 0)).1 := (if_pos c0).trans ((if_pos c2).trans (if_pos c3))
        rw [E]
        exact ⟨rfl, _, _, zz_sm, rfl⟩
    · have c2 : ¬ ((s_lacks F k) = 0) := of_decide_eq_false c2
      refine px_PW.steps kt_183.2 2 rfl ?_
      refine px_PW.callV kt_183.2 rfl rfl rfl rfl (mm_errorL hk c2) (by decide) (fun v h1 q => ?_)
      obtain ⟨rfl, rfl⟩ := q
      refine px_PW.ret kt_183.2 rfl rfl ?_
      have E : s_mfits T J e w P S F k what = (-1000000000 - 2) := (if_pos c0).trans (if_neg c2)
      rw [E]
      exact ⟨rfl, _, _, px_sm.err, rfl⟩
def s_mfitsB (Z : Nat → Int32) (F : Nat → Nat → Int32) (sheet : Int32) (what : Int32) : Int32 := (if 0 ≤ what ∧ what ≤ 1 then (-1000000000 - 1) else (-1000000000 - 1))
theorem kc_mfitsB {Z : Nat → Int32} {F : Nat → Nat → Int32}  (sheet : Int32) (what : Int32) (hb : sheet < 0 ∨ 4 ≤ sheet) : px_PM 4 183 [.ref 1000, .int sheet, .int what] ([], px_MH Z F) (fun r h' => r = some (.int (s_mfitsB Z F sheet what)) ∧ ∃ Z' F', px_sm Z F Z' F' ∧ h' = ([], px_MH Z' F')) := by
  refine px_PM.start (nL := 9) (code := pc_183) rfl rfl ?_
  refine px_PW.steps kt_183.2 3 rfl ?_
  refine px_PW.callS kt_183.2 rfl rfl rfl (cm_117 _ _ _ _) (by decide) (fun v h1 q => ?_)
  obtain ⟨rfl, rfl⟩ := q
  refine px_PW.steps kt_183.2 1 rfl ?_
  refine px_PW.br (fun c0 => ?_) (fun c0 => ?_)
  · have c0 : ¬ (0 ≤ what ∧ what ≤ 1) := px_b1z (of_decide_eq_true c0)
    refine px_PW.steps kt_183.2 4 rfl ?_
    refine px_PW.br (fun c1 => ?_) (fun c1 => ?_)
    · have c1 : (1 : Int32) = 0 := of_decide_eq_true c1
      exact absurd c1 (by decide)
    · have c1 : ¬ ((1 : Int32) = 0) := of_decide_eq_false c1
      refine px_PW.steps kt_183.2 2 rfl ?_
      refine px_PW.callV kt_183.2 rfl rfl rfl rfl (mm_error 1 (by decide)) (by decide) (fun v h1 q => ?_)
      obtain ⟨rfl, rfl⟩ := q
      refine px_PW.ret kt_183.2 rfl rfl ?_
      have E : s_mfitsB Z F sheet what = (-1000000000 - 1) := if_neg c0
      rw [E]
      exact ⟨rfl, _, _, px_sm.err, rfl⟩
  · have c0 : 0 ≤ what ∧ what ≤ 1 := px_b1n (of_decide_eq_false c0)
    refine px_PW.steps kt_183.2 2 rfl ?_
    refine px_PW.callV kt_183.2 rfl rfl rfl rfl (mm_lacksB hb) (by decide) (fun v h1 q => ?_)
    obtain ⟨rfl, rfl⟩ := q
    refine px_PW.steps kt_183.2 4 rfl ?_
    refine px_PW.br (fun c2 => ?_) (fun c2 => ?_)
    · have c2 : (1 : Int32) = 0 := of_decide_eq_true c2
      exact absurd c2 (by decide)
    · have c2 : ¬ ((1 : Int32) = 0) := of_decide_eq_false c2
      refine px_PW.steps kt_183.2 2 rfl ?_
      refine px_PW.callV kt_183.2 rfl rfl rfl rfl (mm_error 1 (by decide)) (by decide) (fun v h1 q => ?_)
      obtain ⟨rfl, rfl⟩ := q
      refine px_PW.ret kt_183.2 rfl rfl ?_
      have E : s_mfitsB Z F sheet what = (-1000000000 - 1) := if_pos c0
      rw [E]
      exact ⟨rfl, _, _, px_sm.err, rfl⟩
end
/-! part 46.mwork -/
section
def s_mjoin (sg x y : Int32) : Int32 := (if sg = 37 then (if y = 0 then 0 else (if y = (-1) then 0 else (x - x / y * y))) else (if sg = 38 then (if x = 0 then 0 else (if y = 0 then 0 else 1)) else (if sg = 42 then (x * y) else (if sg = 43 then (x + y) else (if sg = 45 then (x - y) else (if sg = 47 then (if y = 0 then 0 else (if y = (-1) then (-x) else (x / y))) else (if sg = 60 then (if y ≤ x then 0 else 1) else (if sg = 61 then (if x = y then 1 else 0) else (if sg = 62 then (if x ≤ y then 0 else 1) else (if x = 0 then (if y = 0 then 0 else 1) else 1))))))))))
theorem px_swd_139_1 {x : Int32} (c0 : ¬ (x = 37)) (c1 : ¬ (x = 38)) (c2 : ¬ (x = 42)) (c3 : ¬ (x = 43)) (c4 : ¬ (x = 45)) (c5 : ¬ (x = 47)) (c6 : ¬ (x = 60)) (c7 : ¬ (x = 61)) (c8 : ¬ (x = 62)) : px_sw 37 [154, 204, 218, 218, 218, 128, 120, 218, 124, 218, 132, 218, 218, 218, 218, 218, 218, 218, 218, 218, 218, 218, 218, 171, 193, 182] 218 x.toInt = 218 := by
  have d0 : ¬ (x.toInt = 37) := fun h => c0 (px_i_of h (by decide +kernel))
  have d1 : ¬ (x.toInt = 38) := fun h => c1 (px_i_of h (by decide +kernel))
  have d2 : ¬ (x.toInt = 42) := fun h => c2 (px_i_of h (by decide +kernel))
  have d3 : ¬ (x.toInt = 43) := fun h => c3 (px_i_of h (by decide +kernel))
  have d4 : ¬ (x.toInt = 45) := fun h => c4 (px_i_of h (by decide +kernel))
  have d5 : ¬ (x.toInt = 47) := fun h => c5 (px_i_of h (by decide +kernel))
  have d6 : ¬ (x.toInt = 60) := fun h => c6 (px_i_of h (by decide +kernel))
  have d7 : ¬ (x.toInt = 61) := fun h => c7 (px_i_of h (by decide +kernel))
  have d8 : ¬ (x.toInt = 62) := fun h => c8 (px_i_of h (by decide +kernel))
  exact px_sw_d (fun y h1 h2 => by
    have h1 : (37 : Int) ≤ y := h1
    have h2 : y < 63 := h2
    rcases (show y = 37 ∨ y = 38 ∨ y = 39 ∨ y = 40 ∨ y = 41 ∨ y = 42 ∨ y = 43 ∨ y = 44 ∨ y = 45 ∨ y = 46 ∨ y = 47 ∨ y = 48 ∨ y = 49 ∨ y = 50 ∨ y = 51 ∨ y = 52 ∨ y = 53 ∨ y = 54 ∨ y = 55 ∨ y = 56 ∨ y = 57 ∨ y = 58 ∨ y = 59 ∨ y = 60 ∨ y = 61 ∨ y = 62 by omega) with rfl | rfl | rfl | rfl | rfl | rfl | rfl | rfl | rfl | rfl | rfl | rfl | rfl | rfl | rfl | rfl | rfl | rfl | rfl | rfl | rfl | rfl | rfl | rfl | rfl | rfl
    · exact Or.inl (fun h => d0 h)
    · exact Or.inl (fun h => d1 h)
    · exact Or.inr rfl
    · exact Or.inr rfl
    · exact Or.inr rfl
    · exact Or.inl (fun h => d2 h)
    · exact Or.inl (fun h => d3 h)
    · exact Or.inr rfl
    · exact Or.inl (fun h => d4 h)
    · exact Or.inr rfl
    · exact Or.inl (fun h => d5 h)
    · exact Or.inr rfl
    · exact Or.inr rfl
    · exact Or.inr rfl
    · exact Or.inr rfl
    · exact Or.inr rfl
    · exact Or.inr rfl
    · exact Or.inr rfl
    · exact Or.inr rfl
    · exact Or.inr rfl
    · exact Or.inr rfl
    · exact Or.inr rfl
    · exact Or.inr rfl
    · exact Or.inl (fun h => d6 h)
    · exact Or.inl (fun h => d7 h)
    · exact Or.inl (fun h => d8 h))
theorem mm_join (sg x y : Int32) (h : px_H) : px_PM 1 139 [.int sg, .int x, .int y] h (fun r h' => r = some (.int (s_mjoin sg x y)) ∧ h' = h) := by
  refine px_PM.start (nL := 3) (code := pc_139) rfl rfl ?_
  refine px_PW.steps kt_139.2 2 rfl ?_
  by_cases c0 : sg = 37
  · refine px_PW.at (pc' := 154) (show px_sw 37 [154, 204, 218, 218, 218, 128, 120, 218, 124, 218, 132, 218, 218, 218, 218, 218, 218, 218, 218, 218, 218, 218, 218, 171, 193, 182] 218 (sg : Int32).toInt = 154 by rw [c0]; rfl) ?_
    refine px_PW.steps kt_139.2 2 rfl ?_
    refine px_PW.br (fun c1 => ?_) (fun c1 => ?_)
    · have c1 : y = 0 := of_decide_eq_true c1
      refine px_PW.steps kt_139.2 2 rfl ?_
      refine px_PW.ret kt_139.2 rfl rfl ?_
      exact ⟨congrArg (fun z => some (Value.int z)) (show s_mjoin sg x y = 0 from (if_pos c0).trans (if_pos c1)).symm, rfl⟩
    · have c1 : ¬ (y = 0) := of_decide_eq_false c1
      refine px_PW.steps kt_139.2 3 rfl ?_
      refine px_PW.br (fun c2 => ?_) (fun c2 => ?_)
      · have c2 : ¬ (y = (-1)) := of_decide_eq_false (px_nt c2)
        refine px_PW.steps kt_139.2 2 rfl ?_
        refine px_PW.bin0 kt_139.2 rfl c1 ?_
        refine px_PW.ret kt_139.2 rfl rfl ?_
        exact ⟨congrArg (fun z => some (Value.int z)) (show s_mjoin sg x y = (x - x / y * y) from (if_pos c0).trans ((if_neg c1).trans (if_neg c2))).symm, rfl⟩
      · have c2 : y = (-1) := of_decide_eq_true (px_nf c2)
        refine px_PW.steps kt_139.2 2 rfl ?_
        refine px_PW.ret kt_139.2 rfl rfl ?_
        exact ⟨congrArg (fun z => some (Value.int z)) (show s_mjoin sg x y = 0 from (if_pos c0).trans ((if_neg c1).trans (if_pos c2))).symm, rfl⟩
  · skip
    by_cases c3 : sg = 38
    · refine px_PW.at (pc' := 204) (show px_sw 37 [154, 204, 218, 218, 218, 128, 120, 218, 124, 218, 132, 218, 218, 218, 218, 218, 218, 218, 218, 218, 218, 218, 218, 171, 193, 182] 218 (sg : Int32).toInt = 204 by rw [c3]; rfl) ?_
      refine px_PW.steps kt_139.2 2 rfl ?_
      refine px_PW.br (fun c4 => ?_) (fun c4 => ?_)
      · have c4 : x = 0 := of_decide_eq_true c4
        refine px_PW.steps kt_139.2 1 rfl ?_
        refine px_PW.ret kt_139.2 rfl rfl ?_
        exact ⟨congrArg (fun z => some (Value.int z)) (show s_mjoin sg x y = 0 from (if_neg c0).trans ((if_pos c3).trans (if_pos c4))).symm, rfl⟩
      · have c4 : ¬ (x = 0) := of_decide_eq_false c4
        refine px_PW.steps kt_139.2 2 rfl ?_
        refine px_PW.br (fun c5 => ?_) (fun c5 => ?_)
        · have c5 : y = 0 := of_decide_eq_true c5
          refine px_PW.steps kt_139.2 1 rfl ?_
          refine px_PW.ret kt_139.2 rfl rfl ?_
          exact ⟨congrArg (fun z => some (Value.int z)) (show s_mjoin sg x y = 0 from (if_neg c0).trans ((if_pos c3).trans ((if_neg c4).trans (if_pos c5)))).symm, rfl⟩
        · have c5 : ¬ (y = 0) := of_decide_eq_false c5
          refine px_PW.steps kt_139.2 2 rfl ?_
          refine px_PW.ret kt_139.2 rfl rfl ?_
          exact ⟨congrArg (fun z => some (Value.int z)) (show s_mjoin sg x y = 1 from (if_neg c0).trans ((if_pos c3).trans ((if_neg c4).trans (if_neg c5)))).symm, rfl⟩
    · skip
      by_cases c6 : sg = 42
      · refine px_PW.at (pc' := 128) (show px_sw 37 [154, 204, 218, 218, 218, 128, 120, 218, 124, 218, 132, 218, 218, 218, 218, 218, 218, 218, 218, 218, 218, 218, 218, 171, 193, 182] 218 (sg : Int32).toInt = 128 by rw [c6]; rfl) ?_
        refine px_PW.steps kt_139.2 3 rfl ?_
        refine px_PW.ret kt_139.2 rfl rfl ?_
        exact ⟨congrArg (fun z => some (Value.int z)) (show s_mjoin sg x y = (x * y) from (if_neg c0).trans ((if_neg c3).trans (if_pos c6))).symm, rfl⟩
      · skip
        by_cases c7 : sg = 43
        · refine px_PW.at (pc' := 120) (show px_sw 37 [154, 204, 218, 218, 218, 128, 120, 218, 124, 218, 132, 218, 218, 218, 218, 218, 218, 218, 218, 218, 218, 218, 218, 171, 193, 182] 218 (sg : Int32).toInt = 120 by rw [c7]; rfl) ?_
          refine px_PW.steps kt_139.2 3 rfl ?_
          refine px_PW.ret kt_139.2 rfl rfl ?_
          exact ⟨congrArg (fun z => some (Value.int z)) (show s_mjoin sg x y = (x + y) from (if_neg c0).trans ((if_neg c3).trans ((if_neg c6).trans (if_pos c7)))).symm, rfl⟩
        · skip
          by_cases c8 : sg = 45
          · refine px_PW.at (pc' := 124) (show px_sw 37 [154, 204, 218, 218, 218, 128, 120, 218, 124, 218, 132, 218, 218, 218, 218, 218, 218, 218, 218, 218, 218, 218, 218, 171, 193, 182] 218 (sg : Int32).toInt = 124 by rw [c8]; rfl) ?_
            refine px_PW.steps kt_139.2 3 rfl ?_
            refine px_PW.ret kt_139.2 rfl rfl ?_
            exact ⟨congrArg (fun z => some (Value.int z)) (show s_mjoin sg x y = (x - y) from (if_neg c0).trans ((if_neg c3).trans ((if_neg c6).trans ((if_neg c7).trans (if_pos c8))))).symm, rfl⟩
          · skip
            by_cases c9 : sg = 47
            · refine px_PW.at (pc' := 132) (show px_sw 37 [154, 204, 218, 218, 218, 128, 120, 218, 124, 218, 132, 218, 218, 218, 218, 218, 218, 218, 218, 218, 218, 218, 218, 171, 193, 182] 218 (sg : Int32).toInt = 132 by rw [c9]; rfl) ?_
              refine px_PW.steps kt_139.2 2 rfl ?_
              refine px_PW.br (fun c10 => ?_) (fun c10 => ?_)
              · have c10 : ¬ (y = 0) := of_decide_eq_false (px_nt c10)
                refine px_PW.steps kt_139.2 3 rfl ?_
                refine px_PW.br (fun c11 => ?_) (fun c11 => ?_)
                · have c11 : ¬ (y = (-1)) := of_decide_eq_false (px_nt c11)
                  refine px_PW.steps kt_139.2 2 rfl ?_
                  refine px_PW.bin0 kt_139.2 rfl c10 ?_
                  refine px_PW.ret kt_139.2 rfl rfl ?_
                  exact ⟨congrArg (fun z => some (Value.int z)) (show s_mjoin sg x y = (x / y) from (if_neg c0).trans ((if_neg c3).trans ((if_neg c6).trans ((if_neg c7).trans ((if_neg c8).trans ((if_pos c9).trans ((if_neg c10).trans (if_neg c11)))))))).symm, rfl⟩
                · have c11 : y = (-1) := of_decide_eq_true (px_nf c11)
                  refine px_PW.steps kt_139.2 3 rfl ?_
                  refine px_PW.ret kt_139.2 rfl rfl ?_
                  exact ⟨congrArg (fun z => some (Value.int z)) (show s_mjoin sg x y = (-x) from (if_neg c0).trans ((if_neg c3).trans ((if_neg c6).trans ((if_neg c7).trans ((if_neg c8).trans ((if_pos c9).trans ((if_neg c10).trans (if_pos c11)))))))).symm, rfl⟩
              · have c10 : y = 0 := of_decide_eq_true (px_nf c10)
                refine px_PW.steps kt_139.2 2 rfl ?_
                refine px_PW.ret kt_139.2 rfl rfl ?_
                exact ⟨congrArg (fun z => some (Value.int z)) (show s_mjoin sg x y = 0 from (if_neg c0).trans ((if_neg c3).trans ((if_neg c6).trans ((if_neg c7).trans ((if_neg c8).trans ((if_pos c9).trans (if_pos c10))))))).symm, rfl⟩
            · skip
              by_cases c12 : sg = 60
              · refine px_PW.at (pc' := 171) (show px_sw 37 [154, 204, 218, 218, 218, 128, 120, 218, 124, 218, 132, 218, 218, 218, 218, 218, 218, 218, 218, 218, 218, 218, 218, 171, 193, 182] 218 (sg : Int32).toInt = 171 by rw [c12]; rfl) ?_
                refine px_PW.steps kt_139.2 3 rfl ?_
                refine px_PW.br (fun c13 => ?_) (fun c13 => ?_)
                · have c13 : y ≤ x := of_decide_eq_true c13
                  refine px_PW.steps kt_139.2 1 rfl ?_
                  refine px_PW.ret kt_139.2 rfl rfl ?_
                  exact ⟨congrArg (fun z => some (Value.int z)) (show s_mjoin sg x y = 0 from (if_neg c0).trans ((if_neg c3).trans ((if_neg c6).trans ((if_neg c7).trans ((if_neg c8).trans ((if_neg c9).trans ((if_pos c12).trans (if_pos c13)))))))).symm, rfl⟩
                · have c13 : ¬ (y ≤ x) := of_decide_eq_false c13
                  refine px_PW.steps kt_139.2 2 rfl ?_
                  refine px_PW.ret kt_139.2 rfl rfl ?_
                  exact ⟨congrArg (fun z => some (Value.int z)) (show s_mjoin sg x y = 1 from (if_neg c0).trans ((if_neg c3).trans ((if_neg c6).trans ((if_neg c7).trans ((if_neg c8).trans ((if_neg c9).trans ((if_pos c12).trans (if_neg c13)))))))).symm, rfl⟩
              · skip
                by_cases c14 : sg = 61
                · refine px_PW.at (pc' := 193) (show px_sw 37 [154, 204, 218, 218, 218, 128, 120, 218, 124, 218, 132, 218, 218, 218, 218, 218, 218, 218, 218, 218, 218, 218, 218, 171, 193, 182] 218 (sg : Int32).toInt = 193 by rw [c14]; rfl) ?_
                  refine px_PW.steps kt_139.2 3 rfl ?_
                  refine px_PW.br (fun c15 => ?_) (fun c15 => ?_)
                  · have c15 : ¬ (x = y) := of_decide_eq_false (px_nt c15)
                    refine px_PW.steps kt_139.2 1 rfl ?_
                    refine px_PW.ret kt_139.2 rfl rfl ?_
                    exact ⟨congrArg (fun z => some (Value.int z)) (show s_mjoin sg x y = 0 from (if_neg c0).trans ((if_neg c3).trans ((if_neg c6).trans ((if_neg c7).trans ((if_neg c8).trans ((if_neg c9).trans ((if_neg c12).trans ((if_pos c14).trans (if_neg c15))))))))).symm, rfl⟩
                  · have c15 : x = y := of_decide_eq_true (px_nf c15)
                    refine px_PW.steps kt_139.2 2 rfl ?_
                    refine px_PW.ret kt_139.2 rfl rfl ?_
                    exact ⟨congrArg (fun z => some (Value.int z)) (show s_mjoin sg x y = 1 from (if_neg c0).trans ((if_neg c3).trans ((if_neg c6).trans ((if_neg c7).trans ((if_neg c8).trans ((if_neg c9).trans ((if_neg c12).trans ((if_pos c14).trans (if_pos c15))))))))).symm, rfl⟩
                · skip
                  by_cases c16 : sg = 62
                  · refine px_PW.at (pc' := 182) (show px_sw 37 [154, 204, 218, 218, 218, 128, 120, 218, 124, 218, 132, 218, 218, 218, 218, 218, 218, 218, 218, 218, 218, 218, 218, 171, 193, 182] 218 (sg : Int32).toInt = 182 by rw [c16]; rfl) ?_
                    refine px_PW.steps kt_139.2 3 rfl ?_
                    refine px_PW.br (fun c17 => ?_) (fun c17 => ?_)
                    · have c17 : x ≤ y := of_decide_eq_true c17
                      refine px_PW.steps kt_139.2 1 rfl ?_
                      refine px_PW.ret kt_139.2 rfl rfl ?_
                      exact ⟨congrArg (fun z => some (Value.int z)) (show s_mjoin sg x y = 0 from (if_neg c0).trans ((if_neg c3).trans ((if_neg c6).trans ((if_neg c7).trans ((if_neg c8).trans ((if_neg c9).trans ((if_neg c12).trans ((if_neg c14).trans ((if_pos c16).trans (if_pos c17)))))))))).symm, rfl⟩
                    · have c17 : ¬ (x ≤ y) := of_decide_eq_false c17
                      refine px_PW.steps kt_139.2 2 rfl ?_
                      refine px_PW.ret kt_139.2 rfl rfl ?_
                      exact ⟨congrArg (fun z => some (Value.int z)) (show s_mjoin sg x y = 1 from (if_neg c0).trans ((if_neg c3).trans ((if_neg c6).trans ((if_neg c7).trans ((if_neg c8).trans ((if_neg c9).trans ((if_neg c12).trans ((if_neg c14).trans ((if_pos c16).trans (if_neg c17)))))))))).symm, rfl⟩
                  · skip
                    refine px_PW.at (px_swd_139_1 c0 c3 c6 c7 c8 c9 c12 c14 c16) ?_
                    refine px_PW.steps kt_139.2 2 rfl ?_
                    refine px_PW.br (fun c18 => ?_) (fun c18 => ?_)
                    · have c18 : ¬ (x = 0) := of_decide_eq_false (px_nt c18)
                      refine px_PW.steps kt_139.2 2 rfl ?_
                      refine px_PW.ret kt_139.2 rfl rfl ?_
                      exact ⟨congrArg (fun z => some (Value.int z)) (show s_mjoin sg x y = 1 from (if_neg c0).trans ((if_neg c3).trans ((if_neg c6).trans ((if_neg c7).trans ((if_neg c8).trans ((if_neg c9).trans ((if_neg c12).trans ((if_neg c14).trans ((if_neg c16).trans (if_neg c18)))))))))).symm, rfl⟩
                    · have c18 : x = 0 := of_decide_eq_true (px_nf c18)
                      refine px_PW.steps kt_139.2 2 rfl ?_
                      refine px_PW.br (fun c19 => ?_) (fun c19 => ?_)
                      · have c19 : y = 0 := of_decide_eq_true c19
                        refine px_PW.steps kt_139.2 1 rfl ?_
                        refine px_PW.ret kt_139.2 rfl rfl ?_
                        exact ⟨congrArg (fun z => some (Value.int z)) (show s_mjoin sg x y = 0 from (if_neg c0).trans ((if_neg c3).trans ((if_neg c6).trans ((if_neg c7).trans ((if_neg c8).trans ((if_neg c9).trans ((if_neg c12).trans ((if_neg c14).trans ((if_neg c16).trans ((if_pos c18).trans (if_pos c19))))))))))).symm, rfl⟩
                      · have c19 : ¬ (y = 0) := of_decide_eq_false c19
                        refine px_PW.steps kt_139.2 2 rfl ?_
                        refine px_PW.ret kt_139.2 rfl rfl ?_
                        exact ⟨congrArg (fun z => some (Value.int z)) (show s_mjoin sg x y = 1 from (if_neg c0).trans ((if_neg c3).trans ((if_neg c6).trans ((if_neg c7).trans ((if_neg c8).trans ((if_neg c9).trans ((if_neg c12).trans ((if_neg c14).trans ((if_neg c16).trans ((if_pos c18).trans (if_neg c19))))))))))).symm, rfl⟩
def r_evc (nm : Int32 → Int32) (what v : Int32) (st : List Int32) : List Int32 := if what = 0 then v :: st else if what = 1 then nm v :: st else if what = 2 then (if st.headD 0 = 0 then (1 : Int32) else 0) :: st.tail else s_mjoin v (st.tail.headD 0) (st.headD 0) :: st.tail.tail
def r_evs (nm : Int32 → Int32) (what v : Nat → Int32) : Nat → Nat → List Int32 → List Int32
  | 0, _, st => st
  | m + 1, k, st => r_evs nm what v m (k + 1) (r_evc nm (what k) (v k) st)
/-- the steps of a TEXT work out to one number, its names being some of ok -/
def r_wf (ok : Int32 → Prop) (what v : Nat → Int32) : Nat → Nat → Nat → Prop
  | 0, _, d => d = 1
  | m + 1, k, d => (what k = 0 ∧ r_wf ok what v m (k + 1) (d + 1)) ∨ (what k = 1 ∧ ok (v k) ∧ r_wf ok what v m (k + 1) (d + 1)) ∨ (what k = 2 ∧ 1 ≤ d ∧ r_wf ok what v m (k + 1) d) ∨ (what k = 3 ∧ 2 ≤ d ∧ r_wf ok what v m (k + 1) (d - 1))
theorem ms_7q {d : Nat} {code : Nat → Option px_A} (hT : px_frT code) {Q : Option Value → px_H → Prop} {pc n : Nat} {i x : Int32} {lv : px_L} {r : List Value} {Z g : Nat → Int32} {F : Nat → Nat → Int32} (hc : code pc = some px_iast) (hi : i = nI n) (hn : n < 64) (kk : px_PW d code Q (pc + 1) lv r ([], px_MH Z (va_up F 7 (upd g n x)))) : px_PW d code Q pc lv (.int x :: .int i :: .ref 1008 :: r) ([], px_MH Z (va_up F 7 g)) := by
  refine ms_7 hT hc hi hn ?_
  rw [px_up_up, px_up_self]
  exact kk
def r_ok0 (v : Int32) : Prop := v = 99 ∨ v = 116 ∨ v = 119
theorem r_ok0_n {v : Int32} (h : r_ok0 v) : v = nI v.toNatClampNeg ∧ v.toNatClampNeg < 128 := by
  rcases h with rfl | rfl | rfl <;> exact ⟨rfl, by decide⟩
theorem zz_wi (b k : Nat) : Int32.ofNat b + 2 * nI k = nI (b + 2 * k) := by
  rw [show (2 : Int32) = nI 2 from rfl, zz_mul]
  exact nI_add b (2 * k)
theorem zz_d1 (n : Nat) : nI (n + 1 + 1) + -1 = nI (n + 1) := zz_dec (n + 1)
theorem zz_d2 (n : Nat) : nI (n + 1 + 1) + -1 - 1 = nI n := by rw [zz_d1]; exact nI_pred n
theorem wz_n {ok : Int32 → Prop} {what v : Nat → Int32} {m k d : Nat} (hw : r_wf ok what v (m + 1) k d) (c : what k = 1) : ok (v k) := by
  rcases hw with h | h | h | h
  · exact absurd (h.1.symm.trans c) (by decide)
  · exact h.2.1
  · exact absurd (h.1.symm.trans c) (by decide)
  · exact absurd (h.1.symm.trans c) (by decide)
theorem wz_0 {ok : Int32 → Prop} {what v : Nat → Int32} {m k d : Nat} (hw : r_wf ok what v (m + 1) k d) (c : what k = 0) : r_wf ok what v m (k + 1) (d + 1) := by
  rcases hw with h | h | h | h
  · exact h.2
  · exact absurd (h.1.symm.trans c) (by decide)
  · exact absurd (h.1.symm.trans c) (by decide)
  · exact absurd (h.1.symm.trans c) (by decide)
theorem wz_1 {ok : Int32 → Prop} {what v : Nat → Int32} {m k d : Nat} (hw : r_wf ok what v (m + 1) k d) (c : what k = 1) : r_wf ok what v m (k + 1) (d + 1) := by
  rcases hw with h | h | h | h
  · exact absurd (h.1.symm.trans c) (by decide)
  · exact h.2.2
  · exact absurd (h.1.symm.trans c) (by decide)
  · exact absurd (h.1.symm.trans c) (by decide)
theorem wz_2 {ok : Int32 → Prop} {what v : Nat → Int32} {m k d : Nat} (hw : r_wf ok what v (m + 1) k d) (c : what k = 2) : 1 ≤ d ∧ r_wf ok what v m (k + 1) d := by
  rcases hw with h | h | h | h
  · exact absurd (h.1.symm.trans c) (by decide)
  · exact absurd (h.1.symm.trans c) (by decide)
  · exact h.2
  · exact absurd (h.1.symm.trans c) (by decide)
theorem wz_3 {ok : Int32 → Prop} {what v : Nat → Int32} {m k d : Nat} (hw : r_wf ok what v (m + 1) k d) (c0 : ¬ (what k = 0)) (c1 : ¬ (what k = 1)) (c2 : ¬ (what k = 2)) : 2 ≤ d ∧ r_wf ok what v m (k + 1) (d - 1) := by
  rcases hw with h | h | h | h
  · exact absurd h.1 c0
  · exact absurd h.1 c1
  · exact absurd h.1 c2
  · exact h.2
theorem m_wk0_loop {Z : Nat → Int32} {F : Nat → Nat → Int32} {n : Nat} (hn : F 0 36 = nI n) (hn62 : n ≤ 62) {Q : Option Value → px_H → Prop} : ∀ (m k : Nat) (st : List Int32) (g : Nat → Int32) (o5 o6 : Option Value), k + m = n → st.length ≤ k → zz_st g st → r_wf r_ok0 (fun k => F 0 (37 + 2 * k)) (fun k => F 0 (38 + 2 * k)) m k st.length → (∀ (x : Int32) (g : Nat → Int32) (o5 o6 : Option Value), (r_evs (fun v => F 6 v.toNatClampNeg) (fun k => F 0 (37 + 2 * k)) (fun k => F 0 (38 + 2 * k)) m k st) = [x] → g 0 = x → px_PW 1 pc_140 Q 163 [some (.ref 1000), some (.int 0), some (.int (nI 36)), some (.int (nI 1)), some (.int (nI n)), o5, o6] [] ([], px_MH Z (va_up F 7 g))) → px_PW 1 pc_140 Q 13 [some (.ref 1000), some (.int 0), some (.int (nI 36)), some (.int (nI st.length)), some (.int (nI k)), o5, o6] [] ([], px_MH Z (va_up F 7 g))
  | m, k, st, g, o5, o6, hk, hl, hs, hw, H => by
    refine px_PW.steps kt_140.2 4 rfl ?_
    refine px_PW.aldN kt_140.2 rfl rfl (n := 36) rfl (by decide) ?_
    rw [show (va_up F 7 g) 0 36 = nI n from hn]
    refine px_PW.steps kt_140.2 1 rfl ?_
    refine px_PW.br (fun c0 => ?_) (fun c0 => ?_)
    · have c0 : (nI n) ≤ (nI k) := of_decide_eq_true c0
      have c0 : n ≤ k := (nI_leI (a := n) (b := k) (by omega) (by omega)).mp c0
      obtain rfl : m = 0 := by omega
      obtain rfl : k = n := by omega
      have h1 : st.length = 1 := hw
      match st, h1, hs, H with
      | [x], _, hs, H => exact H x g _ _ rfl hs.1
    · have c0 : ¬ ((nI n) ≤ (nI k)) := of_decide_eq_false c0
      have c0 : ¬ (n ≤ k) := fun q => c0 ((nI_leI (a := n) (b := k) (by omega) (by omega)).mpr q)
      obtain ⟨m2, rfl⟩ : ∃ m2, m = m2 + 1 := ⟨m - 1, by omega⟩
      refine px_PW.steps kt_140.2 9 rfl ?_
      refine px_PW.aldN kt_140.2 rfl rfl (n := 37 + 2 * k) (zz_wi 37 k) (by omega) ?_
      refine px_PW.steps kt_140.2 10 rfl ?_
      refine px_PW.aldN kt_140.2 rfl rfl (n := 38 + 2 * k) (zz_wi 38 k) (by omega) ?_
      refine px_PW.steps kt_140.2 3 rfl ?_
      refine px_PW.br (fun c1 => ?_) (fun c1 => ?_)
      · have c1 : (F 0 (37 + 2 * k)) = 0 := of_decide_eq_true c1
        refine px_PW.steps kt_140.2 5 rfl ?_
        refine px_PW.br (fun c2 => ?_) (fun c2 => ?_)
        · have c2 : ¬ ((F 0 (37 + 2 * k)) = 0) := of_decide_eq_false (px_nt c2)
          exact absurd c1 c2
        · have c2 : (F 0 (37 + 2 * k)) = 0 := of_decide_eq_true (px_nf c2)
          refine px_PW.steps kt_140.2 2 rfl ?_
          refine ms_7q kt_140.2 rfl (n := st.length) rfl (by omega) ?_
          refine px_PW.steps kt_140.2 4 rfl ?_
          have e0 : r_evc (fun v => F 6 v.toNatClampNeg) (F 0 (37 + 2 * k)) (F 0 (38 + 2 * k)) st = ((F 0 (38 + 2 * k)) :: st) := if_pos c1
          have g2 := m_wk0_loop hn hn62 (Z := Z) (F := F) (Q := Q) m2 (k + 1) ((F 0 (38 + 2 * k)) :: st) (upd g st.length (F 0 (38 + 2 * k))) (some (.int (F 0 (37 + 2 * k)))) (some (.int (F 0 (38 + 2 * k)))) (by omega) (by simp only [List.length_cons]; omega) (zz_st_push hs) (wz_0 (what := (fun k => F 0 (37 + 2 * k))) (v := (fun k => F 0 (38 + 2 * k))) hw c1) (fun x9 g9 o5 o6 e9 h9 => H x9 g9 o5 o6 (by rw [← e9]; show r_evs (fun v => F 6 v.toNatClampNeg) (fun k => F 0 (37 + 2 * k)) (fun k => F 0 (38 + 2 * k)) m2 (k + 1) (r_evc (fun v => F 6 v.toNatClampNeg) (F 0 (37 + 2 * k)) (F 0 (38 + 2 * k)) st) = _; rw [e0]) h9)
          refine px_PW.lc (lv' := [some (.ref 1000), some (.int 0), some (.int (nI 36)), some (.int (nI (st.length + 1))), some (.int (nI (k + 1))), (some (.int (F 0 (37 + 2 * k)))), (some (.int (F 0 (38 + 2 * k))))]) (show ([some (.ref 1000), some (.int 0), some (.int (nI 36)), some (.int (nI st.length + 1)), some (.int (nI k + 1)), (some (.int (F 0 (37 + 2 * k)))), (some (.int (F 0 (38 + 2 * k))))] : px_L) = _ from by rw [← nI_succ k, ← nI_succ st.length]) ?_
          exact g2
      · have c1 : ¬ ((F 0 (37 + 2 * k)) = 0) := of_decide_eq_false c1
        refine px_PW.steps kt_140.2 3 rfl ?_
        refine px_PW.br (fun c3 => ?_) (fun c3 => ?_)
        · have c3 : ¬ ((F 0 (37 + 2 * k)) = 1) := of_decide_eq_false (px_nt c3)
          refine px_PW.steps kt_140.2 3 rfl ?_
          refine px_PW.br (fun c4 => ?_) (fun c4 => ?_)
          · have c4 : ¬ ((F 0 (37 + 2 * k)) = 2) := of_decide_eq_false (px_nt c4)
            have hd := wz_3 (what := (fun k => F 0 (37 + 2 * k))) (v := (fun k => F 0 (38 + 2 * k))) hw c1 c3 c4
            obtain ⟨y, x, r, rfl⟩ : ∃ y x r, st = y :: x :: r := by
              match st, hd.1 with
              | y :: x :: r, _ => exact ⟨y, x, r, rfl⟩
            refine px_PW.steps kt_140.2 12 rfl ?_
            refine px_PW.aldN kt_140.2 rfl rfl (n := r.length) (zz_d2 r.length) (by have := hl; simp only [List.length_cons] at this; omega) ?_
            rw [show (va_up F 7 g) 7 r.length = x from hs.2.1]
            refine px_PW.steps kt_140.2 3 rfl ?_
            refine px_PW.aldN kt_140.2 rfl rfl (n := r.length + 1) (zz_d1 r.length) (by have := hl; simp only [List.length_cons] at this; omega) ?_
            rw [show (va_up F 7 g) 7 (r.length + 1) = y from hs.1]
            refine px_PW.callS kt_140.2 rfl rfl rfl (mm_join _ _ _ _) (by decide) (fun v h1 q => ?_)
            obtain ⟨rfl, rfl⟩ := q
            refine ms_7q kt_140.2 rfl (n := r.length) (zz_d2 r.length) (by have := hl; simp only [List.length_cons] at this; omega) ?_
            refine px_PW.steps kt_140.2 2 rfl ?_
            have e0 : r_evc (fun v => F 6 v.toNatClampNeg) (F 0 (37 + 2 * k)) (F 0 (38 + 2 * k)) (y :: x :: r) = (s_mjoin (F 0 (38 + 2 * k)) x y :: r) := (if_neg c1).trans ((if_neg c3).trans (if_neg c4))
            have g2 := m_wk0_loop hn hn62 (Z := Z) (F := F) (Q := Q) m2 (k + 1) (s_mjoin (F 0 (38 + 2 * k)) x y :: r) (upd g r.length (s_mjoin (F 0 (38 + 2 * k)) x y)) (some (.int (F 0 (37 + 2 * k)))) (some (.int (F 0 (38 + 2 * k)))) (by omega) (by have := hl; simp only [List.length_cons] at this ⊢; omega) (zz_st_push hs.2.2) hd.2 (fun x9 g9 o5 o6 e9 h9 => H x9 g9 o5 o6 (by rw [← e9]; show r_evs (fun v => F 6 v.toNatClampNeg) (fun k => F 0 (37 + 2 * k)) (fun k => F 0 (38 + 2 * k)) m2 (k + 1) (r_evc (fun v => F 6 v.toNatClampNeg) (F 0 (37 + 2 * k)) (F 0 (38 + 2 * k)) (y :: x :: r)) = _; rw [e0]) h9)
            refine px_PW.lc (lv' := [some (.ref 1000), some (.int 0), some (.int (nI 36)), some (.int (nI (r.length + 1))), some (.int (nI (k + 1))), (some (.int (F 0 (37 + 2 * k)))), (some (.int (F 0 (38 + 2 * k))))]) (show ([some (.ref 1000), some (.int 0), some (.int (nI 36)), some (.int (nI (y :: x :: r).length + -1)), some (.int (nI k + 1)), (some (.int (F 0 (37 + 2 * k)))), (some (.int (F 0 (38 + 2 * k))))] : px_L) = _ from by rw [← nI_succ k, show nI (y :: x :: r).length + -1 = nI (r.length + 1) from zz_dec (r.length + 1)]) ?_
            exact g2
          · have c4 : (F 0 (37 + 2 * k)) = 2 := of_decide_eq_true (px_nf c4)
            have hd := wz_2 (what := (fun k => F 0 (37 + 2 * k))) (v := (fun k => F 0 (38 + 2 * k))) hw c4
            obtain ⟨y, r, rfl⟩ : ∃ y r, st = y :: r := by
              cases st with
              | nil => exact absurd hd.1 (by decide)
              | cons y r => exact ⟨y, r, rfl⟩
            refine px_PW.steps kt_140.2 10 rfl ?_
            refine px_PW.aldN kt_140.2 rfl rfl (n := r.length) (nI_pred r.length) (by have := hl; simp only [List.length_cons] at this; omega) ?_
            rw [show (va_up F 7 g) 7 r.length = y from hs.1]
            refine px_PW.steps kt_140.2 1 rfl ?_
            refine px_PW.br (fun c5 => ?_) (fun c5 => ?_)
            · have c5 : ¬ (y = 0) := of_decide_eq_false (px_nt c5)
              refine px_PW.steps kt_140.2 1 rfl ?_
              refine ms_7q kt_140.2 rfl (n := r.length) (nI_pred r.length) (by have := hl; simp only [List.length_cons] at this; omega) ?_
              refine px_PW.steps kt_140.2 3 rfl ?_
              have e0 : r_evc (fun v => F 6 v.toNatClampNeg) (F 0 (37 + 2 * k)) (F 0 (38 + 2 * k)) (y :: r) = ((0 : Int32) :: r) := (if_neg c1).trans ((if_neg c3).trans ((if_pos c4).trans (congrArg (fun z : Int32 => z :: r) (if_neg c5))))
              have g2 := m_wk0_loop hn hn62 (Z := Z) (F := F) (Q := Q) m2 (k + 1) ((0 : Int32) :: r) (upd g r.length 0) (some (.int (F 0 (37 + 2 * k)))) (some (.int (F 0 (38 + 2 * k)))) (by omega) (by have := hl; simp only [List.length_cons] at this ⊢; omega) (zz_st_push hs.2) hd.2 (fun x9 g9 o5 o6 e9 h9 => H x9 g9 o5 o6 (by rw [← e9]; show r_evs (fun v => F 6 v.toNatClampNeg) (fun k => F 0 (37 + 2 * k)) (fun k => F 0 (38 + 2 * k)) m2 (k + 1) (r_evc (fun v => F 6 v.toNatClampNeg) (F 0 (37 + 2 * k)) (F 0 (38 + 2 * k)) (y :: r)) = _; rw [e0]) h9)
              refine px_PW.lc (lv' := [some (.ref 1000), some (.int 0), some (.int (nI 36)), some (.int (nI (r.length + 1))), some (.int (nI (k + 1))), (some (.int (F 0 (37 + 2 * k)))), (some (.int (F 0 (38 + 2 * k))))]) (show ([some (.ref 1000), some (.int 0), some (.int (nI 36)), some (.int (nI (y :: r).length)), some (.int (nI k + 1)), (some (.int (F 0 (37 + 2 * k)))), (some (.int (F 0 (38 + 2 * k))))] : px_L) = _ from by rw [← nI_succ k]; rfl) ?_
              exact g2
            · have c5 : y = 0 := of_decide_eq_true (px_nf c5)
              refine px_PW.steps kt_140.2 2 rfl ?_
              refine ms_7q kt_140.2 rfl (n := r.length) (nI_pred r.length) (by have := hl; simp only [List.length_cons] at this; omega) ?_
              refine px_PW.steps kt_140.2 3 rfl ?_
              have e0 : r_evc (fun v => F 6 v.toNatClampNeg) (F 0 (37 + 2 * k)) (F 0 (38 + 2 * k)) (y :: r) = ((1 : Int32) :: r) := (if_neg c1).trans ((if_neg c3).trans ((if_pos c4).trans (congrArg (fun z : Int32 => z :: r) (if_pos c5))))
              have g2 := m_wk0_loop hn hn62 (Z := Z) (F := F) (Q := Q) m2 (k + 1) ((1 : Int32) :: r) (upd g r.length 1) (some (.int (F 0 (37 + 2 * k)))) (some (.int (F 0 (38 + 2 * k)))) (by omega) (by have := hl; simp only [List.length_cons] at this ⊢; omega) (zz_st_push hs.2) hd.2 (fun x9 g9 o5 o6 e9 h9 => H x9 g9 o5 o6 (by rw [← e9]; show r_evs (fun v => F 6 v.toNatClampNeg) (fun k => F 0 (37 + 2 * k)) (fun k => F 0 (38 + 2 * k)) m2 (k + 1) (r_evc (fun v => F 6 v.toNatClampNeg) (F 0 (37 + 2 * k)) (F 0 (38 + 2 * k)) (y :: r)) = _; rw [e0]) h9)
              refine px_PW.lc (lv' := [some (.ref 1000), some (.int 0), some (.int (nI 36)), some (.int (nI (r.length + 1))), some (.int (nI (k + 1))), (some (.int (F 0 (37 + 2 * k)))), (some (.int (F 0 (38 + 2 * k))))]) (show ([some (.ref 1000), some (.int 0), some (.int (nI 36)), some (.int (nI (y :: r).length)), some (.int (nI k + 1)), (some (.int (F 0 (37 + 2 * k)))), (some (.int (F 0 (38 + 2 * k))))] : px_L) = _ from by rw [← nI_succ k]; rfl) ?_
              exact g2
        · have c3 : (F 0 (37 + 2 * k)) = 1 := of_decide_eq_true (px_nf c3)
          refine px_PW.steps kt_140.2 5 rfl ?_
          refine px_PW.br (fun c6 => ?_) (fun c6 => ?_)
          · have c6 : ¬ ((F 0 (37 + 2 * k)) = 0) := of_decide_eq_false (px_nt c6)
            have hnm : r_ok0 (F 0 (38 + 2 * k)) := wz_n (what := (fun k => F 0 (37 + 2 * k))) (v := (fun k => F 0 (38 + 2 * k))) hw c3
            refine px_PW.steps kt_140.2 3 rfl ?_
            refine px_PW.aldN kt_140.2 rfl rfl (n := (F 0 (38 + 2 * k)).toNatClampNeg) (r_ok0_n hnm).1 (r_ok0_n hnm).2 ?_
            refine ms_7q kt_140.2 rfl (n := st.length) rfl (by omega) ?_
            refine px_PW.steps kt_140.2 4 rfl ?_
            have e0 : r_evc (fun v => F 6 v.toNatClampNeg) (F 0 (37 + 2 * k)) (F 0 (38 + 2 * k)) st = (F 6 (F 0 (38 + 2 * k)).toNatClampNeg :: st) := (if_neg c1).trans (if_pos c3)
            have g2 := m_wk0_loop hn hn62 (Z := Z) (F := F) (Q := Q) m2 (k + 1) (F 6 (F 0 (38 + 2 * k)).toNatClampNeg :: st) (upd g st.length (F 6 (F 0 (38 + 2 * k)).toNatClampNeg)) (some (.int (F 0 (37 + 2 * k)))) (some (.int (F 0 (38 + 2 * k)))) (by omega) (by simp only [List.length_cons]; omega) (zz_st_push hs) (wz_1 (what := (fun k => F 0 (37 + 2 * k))) (v := (fun k => F 0 (38 + 2 * k))) hw c3) (fun x9 g9 o5 o6 e9 h9 => H x9 g9 o5 o6 (by rw [← e9]; show r_evs (fun v => F 6 v.toNatClampNeg) (fun k => F 0 (37 + 2 * k)) (fun k => F 0 (38 + 2 * k)) m2 (k + 1) (r_evc (fun v => F 6 v.toNatClampNeg) (F 0 (37 + 2 * k)) (F 0 (38 + 2 * k)) st) = _; rw [e0]) h9)
            refine px_PW.lc (lv' := [some (.ref 1000), some (.int 0), some (.int (nI 36)), some (.int (nI (st.length + 1))), some (.int (nI (k + 1))), (some (.int (F 0 (37 + 2 * k)))), (some (.int (F 0 (38 + 2 * k))))]) (show ([some (.ref 1000), some (.int 0), some (.int (nI 36)), some (.int (nI st.length + 1)), some (.int (nI k + 1)), (some (.int (F 0 (37 + 2 * k)))), (some (.int (F 0 (38 + 2 * k))))] : px_L) = _ from by rw [← nI_succ k, ← nI_succ st.length]) ?_
            exact g2
          · have c6 : (F 0 (37 + 2 * k)) = 0 := of_decide_eq_true (px_nf c6)
            exact absurd c6 c1
theorem mm_wk0 {Z : Nat → Int32} {F : Nat → Nat → Int32} {n : Nat} (hn : F 0 36 = nI n) (hn62 : n ≤ 62) (hw : r_wf r_ok0 (fun k => F 0 (37 + 2 * k)) (fun k => F 0 (38 + 2 * k)) n 0 0) : px_PM 2 140 [.ref 1000, .int 0] ([], px_MH Z F) (fun r h' => r = some (.int ((r_evs (fun v => F 6 v.toNatClampNeg) (fun k => F 0 (37 + 2 * k)) (fun k => F 0 (38 + 2 * k)) n 0 []).headD 0)) ∧ ∃ g : Nat → Int32, h' = ([], px_MH Z (va_up F 7 g))) := by
  refine px_PM.start (nL := 7) (code := pc_140) rfl rfl ?_
  refine px_PW.steps kt_140.2 10 rfl ?_
  refine px_PW.hp (h' := ([], px_MH Z (va_up F 7 (F 7)))) (by rw [px_up_id]) ?_
  refine m_wk0_loop hn hn62 n 0 [] (F 7) none none (by omega) (Nat.le_refl 0) trivial hw (fun x g o5 o6 e1 e2 => ?_)
  refine px_PW.steps kt_140.2 4 rfl ?_
  refine px_PW.ret kt_140.2 rfl rfl ?_
  exact ⟨by rw [e1]; show some (Value.int (g 0)) = some (Value.int x); rw [e2], g, rfl⟩
def r_ok1 (v : Int32) : Prop := v = 104 ∨ v = 110 ∨ v = 107
theorem r_ok1_n {v : Int32} (h : r_ok1 v) : v = nI v.toNatClampNeg ∧ v.toNatClampNeg < 128 := by
  rcases h with rfl | rfl | rfl <;> exact ⟨rfl, by decide⟩
theorem m_wk1_loop {Z : Nat → Int32} {F : Nat → Nat → Int32} {n : Nat} (hn : F 0 161 = nI n) (hn62 : n ≤ 62) {Q : Option Value → px_H → Prop} : ∀ (m k : Nat) (st : List Int32) (g : Nat → Int32) (o5 o6 : Option Value), k + m = n → st.length ≤ k → zz_st g st → r_wf r_ok1 (fun k => F 0 (162 + 2 * k)) (fun k => F 0 (163 + 2 * k)) m k st.length → (∀ (x : Int32) (g : Nat → Int32) (o5 o6 : Option Value), (r_evs (fun v => F 6 v.toNatClampNeg) (fun k => F 0 (162 + 2 * k)) (fun k => F 0 (163 + 2 * k)) m k st) = [x] → g 0 = x → px_PW 1 pc_140 Q 163 [some (.ref 1000), some (.int 1), some (.int (nI 161)), some (.int (nI 1)), some (.int (nI n)), o5, o6] [] ([], px_MH Z (va_up F 7 g))) → px_PW 1 pc_140 Q 13 [some (.ref 1000), some (.int 1), some (.int (nI 161)), some (.int (nI st.length)), some (.int (nI k)), o5, o6] [] ([], px_MH Z (va_up F 7 g))
  | m, k, st, g, o5, o6, hk, hl, hs, hw, H => by
    refine px_PW.steps kt_140.2 4 rfl ?_
    refine px_PW.aldN kt_140.2 rfl rfl (n := 161) rfl (by decide) ?_
    rw [show (va_up F 7 g) 0 161 = nI n from hn]
    refine px_PW.steps kt_140.2 1 rfl ?_
    refine px_PW.br (fun c0 => ?_) (fun c0 => ?_)
    · have c0 : (nI n) ≤ (nI k) := of_decide_eq_true c0
      have c0 : n ≤ k := (nI_leI (a := n) (b := k) (by omega) (by omega)).mp c0
      obtain rfl : m = 0 := by omega
      obtain rfl : k = n := by omega
      have h1 : st.length = 1 := hw
      match st, h1, hs, H with
      | [x], _, hs, H => exact H x g _ _ rfl hs.1
    · have c0 : ¬ ((nI n) ≤ (nI k)) := of_decide_eq_false c0
      have c0 : ¬ (n ≤ k) := fun q => c0 ((nI_leI (a := n) (b := k) (by omega) (by omega)).mpr q)
      obtain ⟨m2, rfl⟩ : ∃ m2, m = m2 + 1 := ⟨m - 1, by omega⟩
      refine px_PW.steps kt_140.2 9 rfl ?_
      refine px_PW.aldN kt_140.2 rfl rfl (n := 162 + 2 * k) (zz_wi 162 k) (by omega) ?_
      refine px_PW.steps kt_140.2 10 rfl ?_
      refine px_PW.aldN kt_140.2 rfl rfl (n := 163 + 2 * k) (zz_wi 163 k) (by omega) ?_
      refine px_PW.steps kt_140.2 3 rfl ?_
      refine px_PW.br (fun c1 => ?_) (fun c1 => ?_)
      · have c1 : (F 0 (162 + 2 * k)) = 0 := of_decide_eq_true c1
        refine px_PW.steps kt_140.2 5 rfl ?_
        refine px_PW.br (fun c2 => ?_) (fun c2 => ?_)
        · have c2 : ¬ ((F 0 (162 + 2 * k)) = 0) := of_decide_eq_false (px_nt c2)
          exact absurd c1 c2
        · have c2 : (F 0 (162 + 2 * k)) = 0 := of_decide_eq_true (px_nf c2)
          refine px_PW.steps kt_140.2 2 rfl ?_
          refine ms_7q kt_140.2 rfl (n := st.length) rfl (by omega) ?_
          refine px_PW.steps kt_140.2 4 rfl ?_
          have e0 : r_evc (fun v => F 6 v.toNatClampNeg) (F 0 (162 + 2 * k)) (F 0 (163 + 2 * k)) st = ((F 0 (163 + 2 * k)) :: st) := if_pos c1
          have g2 := m_wk1_loop hn hn62 (Z := Z) (F := F) (Q := Q) m2 (k + 1) ((F 0 (163 + 2 * k)) :: st) (upd g st.length (F 0 (163 + 2 * k))) (some (.int (F 0 (162 + 2 * k)))) (some (.int (F 0 (163 + 2 * k)))) (by omega) (by simp only [List.length_cons]; omega) (zz_st_push hs) (wz_0 (what := (fun k => F 0 (162 + 2 * k))) (v := (fun k => F 0 (163 + 2 * k))) hw c1) (fun x9 g9 o5 o6 e9 h9 => H x9 g9 o5 o6 (by rw [← e9]; show r_evs (fun v => F 6 v.toNatClampNeg) (fun k => F 0 (162 + 2 * k)) (fun k => F 0 (163 + 2 * k)) m2 (k + 1) (r_evc (fun v => F 6 v.toNatClampNeg) (F 0 (162 + 2 * k)) (F 0 (163 + 2 * k)) st) = _; rw [e0]) h9)
          refine px_PW.lc (lv' := [some (.ref 1000), some (.int 1), some (.int (nI 161)), some (.int (nI (st.length + 1))), some (.int (nI (k + 1))), (some (.int (F 0 (162 + 2 * k)))), (some (.int (F 0 (163 + 2 * k))))]) (show ([some (.ref 1000), some (.int 1), some (.int (nI 161)), some (.int (nI st.length + 1)), some (.int (nI k + 1)), (some (.int (F 0 (162 + 2 * k)))), (some (.int (F 0 (163 + 2 * k))))] : px_L) = _ from by rw [← nI_succ k, ← nI_succ st.length]) ?_
          exact g2
      · have c1 : ¬ ((F 0 (162 + 2 * k)) = 0) := of_decide_eq_false c1
        refine px_PW.steps kt_140.2 3 rfl ?_
        refine px_PW.br (fun c3 => ?_) (fun c3 => ?_)
        · have c3 : ¬ ((F 0 (162 + 2 * k)) = 1) := of_decide_eq_false (px_nt c3)
          refine px_PW.steps kt_140.2 3 rfl ?_
          refine px_PW.br (fun c4 => ?_) (fun c4 => ?_)
          · have c4 : ¬ ((F 0 (162 + 2 * k)) = 2) := of_decide_eq_false (px_nt c4)
            have hd := wz_3 (what := (fun k => F 0 (162 + 2 * k))) (v := (fun k => F 0 (163 + 2 * k))) hw c1 c3 c4
            obtain ⟨y, x, r, rfl⟩ : ∃ y x r, st = y :: x :: r := by
              match st, hd.1 with
              | y :: x :: r, _ => exact ⟨y, x, r, rfl⟩
            refine px_PW.steps kt_140.2 12 rfl ?_
            refine px_PW.aldN kt_140.2 rfl rfl (n := r.length) (zz_d2 r.length) (by have := hl; simp only [List.length_cons] at this; omega) ?_
            rw [show (va_up F 7 g) 7 r.length = x from hs.2.1]
            refine px_PW.steps kt_140.2 3 rfl ?_
            refine px_PW.aldN kt_140.2 rfl rfl (n := r.length + 1) (zz_d1 r.length) (by have := hl; simp only [List.length_cons] at this; omega) ?_
            rw [show (va_up F 7 g) 7 (r.length + 1) = y from hs.1]
            refine px_PW.callS kt_140.2 rfl rfl rfl (mm_join _ _ _ _) (by decide) (fun v h1 q => ?_)
            obtain ⟨rfl, rfl⟩ := q
            refine ms_7q kt_140.2 rfl (n := r.length) (zz_d2 r.length) (by have := hl; simp only [List.length_cons] at this; omega) ?_
            refine px_PW.steps kt_140.2 2 rfl ?_
            have e0 : r_evc (fun v => F 6 v.toNatClampNeg) (F 0 (162 + 2 * k)) (F 0 (163 + 2 * k)) (y :: x :: r) = (s_mjoin (F 0 (163 + 2 * k)) x y :: r) := (if_neg c1).trans ((if_neg c3).trans (if_neg c4))
            have g2 := m_wk1_loop hn hn62 (Z := Z) (F := F) (Q := Q) m2 (k + 1) (s_mjoin (F 0 (163 + 2 * k)) x y :: r) (upd g r.length (s_mjoin (F 0 (163 + 2 * k)) x y)) (some (.int (F 0 (162 + 2 * k)))) (some (.int (F 0 (163 + 2 * k)))) (by omega) (by have := hl; simp only [List.length_cons] at this ⊢; omega) (zz_st_push hs.2.2) hd.2 (fun x9 g9 o5 o6 e9 h9 => H x9 g9 o5 o6 (by rw [← e9]; show r_evs (fun v => F 6 v.toNatClampNeg) (fun k => F 0 (162 + 2 * k)) (fun k => F 0 (163 + 2 * k)) m2 (k + 1) (r_evc (fun v => F 6 v.toNatClampNeg) (F 0 (162 + 2 * k)) (F 0 (163 + 2 * k)) (y :: x :: r)) = _; rw [e0]) h9)
            refine px_PW.lc (lv' := [some (.ref 1000), some (.int 1), some (.int (nI 161)), some (.int (nI (r.length + 1))), some (.int (nI (k + 1))), (some (.int (F 0 (162 + 2 * k)))), (some (.int (F 0 (163 + 2 * k))))]) (show ([some (.ref 1000), some (.int 1), some (.int (nI 161)), some (.int (nI (y :: x :: r).length + -1)), some (.int (nI k + 1)), (some (.int (F 0 (162 + 2 * k)))), (some (.int (F 0 (163 + 2 * k))))] : px_L) = _ from by rw [← nI_succ k, show nI (y :: x :: r).length + -1 = nI (r.length + 1) from zz_dec (r.length + 1)]) ?_
            exact g2
          · have c4 : (F 0 (162 + 2 * k)) = 2 := of_decide_eq_true (px_nf c4)
            have hd := wz_2 (what := (fun k => F 0 (162 + 2 * k))) (v := (fun k => F 0 (163 + 2 * k))) hw c4
            obtain ⟨y, r, rfl⟩ : ∃ y r, st = y :: r := by
              cases st with
              | nil => exact absurd hd.1 (by decide)
              | cons y r => exact ⟨y, r, rfl⟩
            refine px_PW.steps kt_140.2 10 rfl ?_
            refine px_PW.aldN kt_140.2 rfl rfl (n := r.length) (nI_pred r.length) (by have := hl; simp only [List.length_cons] at this; omega) ?_
            rw [show (va_up F 7 g) 7 r.length = y from hs.1]
            refine px_PW.steps kt_140.2 1 rfl ?_
            refine px_PW.br (fun c5 => ?_) (fun c5 => ?_)
            · have c5 : ¬ (y = 0) := of_decide_eq_false (px_nt c5)
              refine px_PW.steps kt_140.2 1 rfl ?_
              refine ms_7q kt_140.2 rfl (n := r.length) (nI_pred r.length) (by have := hl; simp only [List.length_cons] at this; omega) ?_
              refine px_PW.steps kt_140.2 3 rfl ?_
              have e0 : r_evc (fun v => F 6 v.toNatClampNeg) (F 0 (162 + 2 * k)) (F 0 (163 + 2 * k)) (y :: r) = ((0 : Int32) :: r) := (if_neg c1).trans ((if_neg c3).trans ((if_pos c4).trans (congrArg (fun z : Int32 => z :: r) (if_neg c5))))
              have g2 := m_wk1_loop hn hn62 (Z := Z) (F := F) (Q := Q) m2 (k + 1) ((0 : Int32) :: r) (upd g r.length 0) (some (.int (F 0 (162 + 2 * k)))) (some (.int (F 0 (163 + 2 * k)))) (by omega) (by have := hl; simp only [List.length_cons] at this ⊢; omega) (zz_st_push hs.2) hd.2 (fun x9 g9 o5 o6 e9 h9 => H x9 g9 o5 o6 (by rw [← e9]; show r_evs (fun v => F 6 v.toNatClampNeg) (fun k => F 0 (162 + 2 * k)) (fun k => F 0 (163 + 2 * k)) m2 (k + 1) (r_evc (fun v => F 6 v.toNatClampNeg) (F 0 (162 + 2 * k)) (F 0 (163 + 2 * k)) (y :: r)) = _; rw [e0]) h9)
              refine px_PW.lc (lv' := [some (.ref 1000), some (.int 1), some (.int (nI 161)), some (.int (nI (r.length + 1))), some (.int (nI (k + 1))), (some (.int (F 0 (162 + 2 * k)))), (some (.int (F 0 (163 + 2 * k))))]) (show ([some (.ref 1000), some (.int 1), some (.int (nI 161)), some (.int (nI (y :: r).length)), some (.int (nI k + 1)), (some (.int (F 0 (162 + 2 * k)))), (some (.int (F 0 (163 + 2 * k))))] : px_L) = _ from by rw [← nI_succ k]; rfl) ?_
              exact g2
            · have c5 : y = 0 := of_decide_eq_true (px_nf c5)
              refine px_PW.steps kt_140.2 2 rfl ?_
              refine ms_7q kt_140.2 rfl (n := r.length) (nI_pred r.length) (by have := hl; simp only [List.length_cons] at this; omega) ?_
              refine px_PW.steps kt_140.2 3 rfl ?_
              have e0 : r_evc (fun v => F 6 v.toNatClampNeg) (F 0 (162 + 2 * k)) (F 0 (163 + 2 * k)) (y :: r) = ((1 : Int32) :: r) := (if_neg c1).trans ((if_neg c3).trans ((if_pos c4).trans (congrArg (fun z : Int32 => z :: r) (if_pos c5))))
              have g2 := m_wk1_loop hn hn62 (Z := Z) (F := F) (Q := Q) m2 (k + 1) ((1 : Int32) :: r) (upd g r.length 1) (some (.int (F 0 (162 + 2 * k)))) (some (.int (F 0 (163 + 2 * k)))) (by omega) (by have := hl; simp only [List.length_cons] at this ⊢; omega) (zz_st_push hs.2) hd.2 (fun x9 g9 o5 o6 e9 h9 => H x9 g9 o5 o6 (by rw [← e9]; show r_evs (fun v => F 6 v.toNatClampNeg) (fun k => F 0 (162 + 2 * k)) (fun k => F 0 (163 + 2 * k)) m2 (k + 1) (r_evc (fun v => F 6 v.toNatClampNeg) (F 0 (162 + 2 * k)) (F 0 (163 + 2 * k)) (y :: r)) = _; rw [e0]) h9)
              refine px_PW.lc (lv' := [some (.ref 1000), some (.int 1), some (.int (nI 161)), some (.int (nI (r.length + 1))), some (.int (nI (k + 1))), (some (.int (F 0 (162 + 2 * k)))), (some (.int (F 0 (163 + 2 * k))))]) (show ([some (.ref 1000), some (.int 1), some (.int (nI 161)), some (.int (nI (y :: r).length)), some (.int (nI k + 1)), (some (.int (F 0 (162 + 2 * k)))), (some (.int (F 0 (163 + 2 * k))))] : px_L) = _ from by rw [← nI_succ k]; rfl) ?_
              exact g2
        · have c3 : (F 0 (162 + 2 * k)) = 1 := of_decide_eq_true (px_nf c3)
          refine px_PW.steps kt_140.2 5 rfl ?_
          refine px_PW.br (fun c6 => ?_) (fun c6 => ?_)
          · have c6 : ¬ ((F 0 (162 + 2 * k)) = 0) := of_decide_eq_false (px_nt c6)
            have hnm : r_ok1 (F 0 (163 + 2 * k)) := wz_n (what := (fun k => F 0 (162 + 2 * k))) (v := (fun k => F 0 (163 + 2 * k))) hw c3
            refine px_PW.steps kt_140.2 3 rfl ?_
            refine px_PW.aldN kt_140.2 rfl rfl (n := (F 0 (163 + 2 * k)).toNatClampNeg) (r_ok1_n hnm).1 (r_ok1_n hnm).2 ?_
            refine ms_7q kt_140.2 rfl (n := st.length) rfl (by omega) ?_
            refine px_PW.steps kt_140.2 4 rfl ?_
            have e0 : r_evc (fun v => F 6 v.toNatClampNeg) (F 0 (162 + 2 * k)) (F 0 (163 + 2 * k)) st = (F 6 (F 0 (163 + 2 * k)).toNatClampNeg :: st) := (if_neg c1).trans (if_pos c3)
            have g2 := m_wk1_loop hn hn62 (Z := Z) (F := F) (Q := Q) m2 (k + 1) (F 6 (F 0 (163 + 2 * k)).toNatClampNeg :: st) (upd g st.length (F 6 (F 0 (163 + 2 * k)).toNatClampNeg)) (some (.int (F 0 (162 + 2 * k)))) (some (.int (F 0 (163 + 2 * k)))) (by omega) (by simp only [List.length_cons]; omega) (zz_st_push hs) (wz_1 (what := (fun k => F 0 (162 + 2 * k))) (v := (fun k => F 0 (163 + 2 * k))) hw c3) (fun x9 g9 o5 o6 e9 h9 => H x9 g9 o5 o6 (by rw [← e9]; show r_evs (fun v => F 6 v.toNatClampNeg) (fun k => F 0 (162 + 2 * k)) (fun k => F 0 (163 + 2 * k)) m2 (k + 1) (r_evc (fun v => F 6 v.toNatClampNeg) (F 0 (162 + 2 * k)) (F 0 (163 + 2 * k)) st) = _; rw [e0]) h9)
            refine px_PW.lc (lv' := [some (.ref 1000), some (.int 1), some (.int (nI 161)), some (.int (nI (st.length + 1))), some (.int (nI (k + 1))), (some (.int (F 0 (162 + 2 * k)))), (some (.int (F 0 (163 + 2 * k))))]) (show ([some (.ref 1000), some (.int 1), some (.int (nI 161)), some (.int (nI st.length + 1)), some (.int (nI k + 1)), (some (.int (F 0 (162 + 2 * k)))), (some (.int (F 0 (163 + 2 * k))))] : px_L) = _ from by rw [← nI_succ k, ← nI_succ st.length]) ?_
            exact g2
          · have c6 : (F 0 (162 + 2 * k)) = 0 := of_decide_eq_true (px_nf c6)
            exact absurd c6 c1
theorem mm_wk1 {Z : Nat → Int32} {F : Nat → Nat → Int32} {n : Nat} (hn : F 0 161 = nI n) (hn62 : n ≤ 62) (hw : r_wf r_ok1 (fun k => F 0 (162 + 2 * k)) (fun k => F 0 (163 + 2 * k)) n 0 0) : px_PM 2 140 [.ref 1000, .int 1] ([], px_MH Z F) (fun r h' => r = some (.int ((r_evs (fun v => F 6 v.toNatClampNeg) (fun k => F 0 (162 + 2 * k)) (fun k => F 0 (163 + 2 * k)) n 0 []).headD 0)) ∧ ∃ g : Nat → Int32, h' = ([], px_MH Z (va_up F 7 g))) := by
  refine px_PM.start (nL := 7) (code := pc_140) rfl rfl ?_
  refine px_PW.steps kt_140.2 10 rfl ?_
  refine px_PW.hp (h' := ([], px_MH Z (va_up F 7 (F 7)))) (by rw [px_up_id]) ?_
  refine m_wk1_loop hn hn62 n 0 [] (F 7) none none (by omega) (Nat.le_refl 0) trivial hw (fun x g o5 o6 e1 e2 => ?_)
  refine px_PW.steps kt_140.2 4 rfl ?_
  refine px_PW.ret kt_140.2 rfl rfl ?_
  exact ⟨by rw [e1]; show some (Value.int (g 0)) = some (Value.int x); rw [e2], g, rfl⟩
end
/-! part 47.mharm -/
section
theorem r_evs_congr {ok : Int32 → Prop} {nm nm2 : Int32 → Int32} {what v : Nat → Int32} (h : ∀ x : Int32, ok x → nm x = nm2 x) : ∀ (m k d : Nat) (st : List Int32), r_wf ok what v m k d → r_evs nm what v m k st = r_evs nm2 what v m k st
  | 0, _, _, _, _ => rfl
  | m + 1, k, d, st, hw => by
    have e : r_evc nm (what k) (v k) st = r_evc nm2 (what k) (v k) st := by
      unfold r_evc
      by_cases c0 : what k = 0
      · rw [if_pos c0, if_pos c0]
      · rw [if_neg c0, if_neg c0]
        by_cases c1 : what k = 1
        · rw [if_pos c1, if_pos c1, h _ (wz_n hw c1)]
        · rw [if_neg c1, if_neg c1]
    show r_evs nm what v m (k + 1) (r_evc nm (what k) (v k) st) = r_evs nm2 what v m (k + 1) (r_evc nm2 (what k) (v k) st)
    rw [e]
    rcases hw with q | q | q | q
    · exact r_evs_congr h m (k + 1) _ _ q.2
    · exact r_evs_congr h m (k + 1) _ _ q.2.2
    · exact r_evs_congr h m (k + 1) _ _ q.2.2
    · exact r_evs_congr h m (k + 1) _ _ q.2.2
def r_nm0 (a b c v : Int32) : Int32 := if v = 99 then a else if v = 116 then b else c
def s_mtx0 (F : Nat → Nat → Int32) (a b c : Int32) : Int32 := (r_evs (r_nm0 a b c) (fun k => F 0 (37 + 2 * k)) (fun k => F 0 (38 + 2 * k)) (F 0 36).toNatClampNeg 0 []).headD 0
/-- the reference holds no TEXT of the USE, or one whose steps are in order -/
def r_tx0 (F : Nat → Nat → Int32) : Prop := F 0 36 = 0 ∨ ∃ n : Nat, n ≤ 62 ∧ F 0 36 = nI n ∧ r_wf r_ok0 (fun k => F 0 (37 + 2 * k)) (fun k => F 0 (38 + 2 * k)) n 0 0
def s_mtold0 (F : Nat → Nat → Int32) (a b c : Int32) : Int32 := i_held (if 0 < (F 0 36) then s_mtx0 F a b c else (a / 3)) 0 99
theorem mm_told0 {Z : Nat → Int32} {F : Nat → Nat → Int32} (htx : r_tx0 F) (a b c : Int32) : px_PM 3 154 [.ref 1000, .int a, .int b, .int c] ([], px_MH Z F) (fun r h' => r = some (.int (s_mtold0 F a b c)) ∧ ∃ (n6 g7 : Nat → Int32), h' = ([], px_MH Z (va_up (va_up F 6 n6) 7 g7))) := by
  refine px_PM.start (nL := 4) (code := pc_154) rfl rfl ?_
  refine px_PW.steps kt_154.2 4 rfl ?_
  refine ms_6 kt_154.2 rfl (n := 99) rfl (by decide) ?_
  refine px_PW.steps kt_154.2 4 rfl ?_
  refine ms_6 kt_154.2 rfl (n := 116) rfl (by decide) ?_
  rw [px_up_up, px_up_self]
  refine px_PW.steps kt_154.2 4 rfl ?_
  refine ms_6 kt_154.2 rfl (n := 119) rfl (by decide) ?_
  rw [px_up_up, px_up_self]
  refine px_PW.steps kt_154.2 2 rfl ?_
  refine px_PW.callV kt_154.2 rfl rfl rfl rfl (mm_hasText0) (by decide) (fun v h1 q => ?_)
  obtain ⟨rfl, rfl⟩ := q
  refine px_PW.steps kt_154.2 1 rfl ?_
  refine px_PW.br (fun c0 => ?_) (fun c0 => ?_)
  · have c0 : ¬ (0 < (F 0 36)) := px_b1z (of_decide_eq_true c0)
    refine px_PW.steps kt_154.2 5 rfl ?_
    refine px_PW.callS kt_154.2 rfl rfl rfl (mm_held _ _ _ _) (by decide) (fun v h1 q => ?_)
    obtain ⟨rfl, rfl⟩ := q
    refine px_PW.ret kt_154.2 rfl rfl ?_
    have E : s_mtold0 F a b c = (i_held (a / 3) 0 99) := congrArg (fun z => i_held z 0 99) (if_neg c0)
    rw [E]
    exact ⟨rfl, _, F 7, (congrArg (fun z => ([], px_MH Z z)) (px_up_id (va_up F 6 _) 7)).symm⟩
  · have c0 : 0 < (F 0 36) := px_b1n (of_decide_eq_false c0)
    refine px_PW.steps kt_154.2 2 rfl ?_
    have hx := htx.resolve_left (fun q => by rw [q] at c0; exact absurd c0 (by decide))
    obtain ⟨n, hn62, hn, hwf⟩ := hx
    have hnn : (F 0 36).toNatClampNeg = n := by rw [hn, nI_clamp (by omega)]
    refine px_PW.callV kt_154.2 rfl rfl rfl rfl (mm_wk0 (F := (va_up F 6 (upd (upd (upd (F 6) 99 a) 116 b) 119 c))) hn hn62 hwf) (by decide) (fun v h1 q => ?_)
    obtain ⟨rfl, g9, rfl⟩ := q
    rw [show (r_evs (fun v => ((va_up F 6 (upd (upd (upd (F 6) 99 a) 116 b) 119 c))) 6 v.toNatClampNeg) _ _ n 0 []).headD 0 = s_mtx0 F a b c from by unfold s_mtx0; rw [hnn]; exact congrArg (fun l : List Int32 => l.headD 0) (r_evs_congr (ok := r_ok0) (fun x hx => by rcases hx with rfl | rfl | rfl <;> rfl) n 0 0 [] hwf)]
    refine px_PW.steps kt_154.2 3 rfl ?_
    refine px_PW.callS kt_154.2 rfl rfl rfl (mm_held _ _ _ _) (by decide) (fun v h1 q => ?_)
    obtain ⟨rfl, rfl⟩ := q
    refine px_PW.ret kt_154.2 rfl rfl ?_
    have E : s_mtold0 F a b c = (i_held (s_mtx0 F a b c) 0 99) := congrArg (fun z => i_held z 0 99) (if_pos c0)
    rw [E]
    exact ⟨rfl, _, g9, rfl⟩
def r_nm1 (a b c v : Int32) : Int32 := if v = 104 then a else if v = 110 then b else c
def s_mtx1 (F : Nat → Nat → Int32) (a b c : Int32) : Int32 := (r_evs (r_nm1 a b c) (fun k => F 0 (162 + 2 * k)) (fun k => F 0 (163 + 2 * k)) (F 0 161).toNatClampNeg 0 []).headD 0
/-- the reference holds no TEXT of the USE, or one whose steps are in order -/
def r_tx1 (F : Nat → Nat → Int32) : Prop := F 0 161 = 0 ∨ ∃ n : Nat, n ≤ 62 ∧ F 0 161 = nI n ∧ r_wf r_ok1 (fun k => F 0 (162 + 2 * k)) (fun k => F 0 (163 + 2 * k)) n 0 0
def s_mtold1 (F : Nat → Nat → Int32) (a b c : Int32) : Int32 := i_held (if 0 < (F 0 161) then s_mtx1 F a b c else a) (-99) 99
theorem mm_told1 {Z : Nat → Int32} {F : Nat → Nat → Int32} (htx : r_tx1 F) (a b c : Int32) : px_PM 3 155 [.ref 1000, .int a, .int b, .int c] ([], px_MH Z F) (fun r h' => r = some (.int (s_mtold1 F a b c)) ∧ ∃ (n6 g7 : Nat → Int32), h' = ([], px_MH Z (va_up (va_up F 6 n6) 7 g7))) := by
  refine px_PM.start (nL := 4) (code := pc_155) rfl rfl ?_
  refine px_PW.steps kt_155.2 4 rfl ?_
  refine ms_6 kt_155.2 rfl (n := 104) rfl (by decide) ?_
  refine px_PW.steps kt_155.2 4 rfl ?_
  refine ms_6 kt_155.2 rfl (n := 110) rfl (by decide) ?_
  rw [px_up_up, px_up_self]
  refine px_PW.steps kt_155.2 4 rfl ?_
  refine ms_6 kt_155.2 rfl (n := 107) rfl (by decide) ?_
  rw [px_up_up, px_up_self]
  refine px_PW.steps kt_155.2 2 rfl ?_
  refine px_PW.callV kt_155.2 rfl rfl rfl rfl (mm_hasText1) (by decide) (fun v h1 q => ?_)
  obtain ⟨rfl, rfl⟩ := q
  refine px_PW.steps kt_155.2 1 rfl ?_
  refine px_PW.br (fun c0 => ?_) (fun c0 => ?_)
  · have c0 : ¬ (0 < (F 0 161)) := px_b1z (of_decide_eq_true c0)
    refine px_PW.steps kt_155.2 3 rfl ?_
    refine px_PW.callS kt_155.2 rfl rfl rfl (mm_held _ _ _ _) (by decide) (fun v h1 q => ?_)
    obtain ⟨rfl, rfl⟩ := q
    refine px_PW.ret kt_155.2 rfl rfl ?_
    have E : s_mtold1 F a b c = (i_held a (-99) 99) := congrArg (fun z => i_held z (-99) 99) (if_neg c0)
    rw [E]
    exact ⟨rfl, _, F 7, (congrArg (fun z => ([], px_MH Z z)) (px_up_id (va_up F 6 _) 7)).symm⟩
  · have c0 : 0 < (F 0 161) := px_b1n (of_decide_eq_false c0)
    refine px_PW.steps kt_155.2 2 rfl ?_
    have hx := htx.resolve_left (fun q => by rw [q] at c0; exact absurd c0 (by decide))
    obtain ⟨n, hn62, hn, hwf⟩ := hx
    have hnn : (F 0 161).toNatClampNeg = n := by rw [hn, nI_clamp (by omega)]
    refine px_PW.callV kt_155.2 rfl rfl rfl rfl (mm_wk1 (F := (va_up F 6 (upd (upd (upd (F 6) 104 a) 110 b) 107 c))) hn hn62 hwf) (by decide) (fun v h1 q => ?_)
    obtain ⟨rfl, g9, rfl⟩ := q
    rw [show (r_evs (fun v => ((va_up F 6 (upd (upd (upd (F 6) 104 a) 110 b) 107 c))) 6 v.toNatClampNeg) _ _ n 0 []).headD 0 = s_mtx1 F a b c from by unfold s_mtx1; rw [hnn]; exact congrArg (fun l : List Int32 => l.headD 0) (r_evs_congr (ok := r_ok1) (fun x hx => by rcases hx with rfl | rfl | rfl <;> rfl) n 0 0 [] hwf)]
    refine px_PW.steps kt_155.2 3 rfl ?_
    refine px_PW.callS kt_155.2 rfl rfl rfl (mm_held _ _ _ _) (by decide) (fun v h1 q => ?_)
    obtain ⟨rfl, rfl⟩ := q
    refine px_PW.ret kt_155.2 rfl rfl ?_
    have E : s_mtold1 F a b c = (i_held (s_mtx1 F a b c) (-99) 99) := congrArg (fun z => i_held z (-99) 99) (if_pos c0)
    rw [E]
    exact ⟨rfl, _, g9, rfl⟩
theorem zz_sm67 {Z : Nat → Int32} {F : Nat → Nat → Int32} {a b : Nat → Int32} : px_sm Z F Z (va_up (va_up F 6 a) 7 b) := ⟨rfl, fun h => h, rfl, rfl, rfl, rfl, rfl, rfl, rfl⟩
def s_mlaw (F : Nat → Nat → Int32) (use a b c : Int32) : Int32 := (if 0 ≤ use ∧ use ≤ 1 then (if use = 0 then (s_mtold0 F a b c) else (s_mtold1 F a b c)) else (-1000000000 - 1))
theorem kc_mlaw {Z : Nat → Int32} {F : Nat → Nat → Int32} (htx0 : r_tx0 F) (htx1 : r_tx1 F) (use a b c : Int32) : px_PM 4 167 [.ref 1000, .int use, .int a, .int b, .int c] ([], px_MH Z F) (fun r h' => r = some (.int (s_mlaw F use a b c)) ∧ ∃ Z' F', px_sm Z F Z' F' ∧ h' = ([], px_MH Z' F')) := by
  refine px_PM.start (nL := 5) (code := pc_167) rfl rfl ?_
  refine px_PW.steps kt_167.2 3 rfl ?_
  refine px_PW.callS kt_167.2 rfl rfl rfl (cm_117 _ _ _ _) (by decide) (fun v h1 q => ?_)
  obtain ⟨rfl, rfl⟩ := q
  refine px_PW.steps kt_167.2 1 rfl ?_
  refine px_PW.br (fun c0 => ?_) (fun c0 => ?_)
  · have c0 : 0 ≤ use ∧ use ≤ 1 := px_b1n (of_decide_eq_false (px_nt c0))
    refine px_PW.steps kt_167.2 2 rfl ?_
    refine px_PW.br (fun c1 => ?_) (fun c1 => ?_)
    · have c1 : ¬ (use = 0) := of_decide_eq_false (px_nt c1)
      refine px_PW.steps kt_167.2 4 rfl ?_
      refine px_PW.callV kt_167.2 rfl rfl rfl rfl (mm_told1 htx1 _ _ _) (by decide) (fun v h1 q => ?_)
      obtain ⟨rfl, n6, g7, rfl⟩ := q
      refine px_PW.ret kt_167.2 rfl rfl ?_
      have E : s_mlaw F use a b c = (s_mtold1 F a b c) := (if_pos c0).trans (if_neg c1)
      rw [E]
      exact ⟨rfl, _, _, zz_sm67, rfl⟩
    · have c1 : use = 0 := of_decide_eq_true (px_nf c1)
      refine px_PW.steps kt_167.2 4 rfl ?_
      refine px_PW.callV kt_167.2 rfl rfl rfl rfl (mm_told0 htx0 _ _ _) (by decide) (fun v h1 q => ?_)
      obtain ⟨rfl, n6, g7, rfl⟩ := q
      refine px_PW.steps kt_167.2 1 rfl ?_
      refine px_PW.ret kt_167.2 rfl rfl ?_
      have E : s_mlaw F use a b c = (s_mtold0 F a b c) := (if_pos c0).trans (if_pos c1)
      rw [E]
      exact ⟨rfl, _, _, zz_sm67, rfl⟩
  · have c0 : ¬ (0 ≤ use ∧ use ≤ 1) := px_b1z (of_decide_eq_true (px_nf c0))
    refine px_PW.steps kt_167.2 2 rfl ?_
    refine px_PW.callV kt_167.2 rfl rfl rfl rfl (mm_error 1 (by decide)) (by decide) (fun v h1 q => ?_)
    obtain ⟨rfl, rfl⟩ := q
    refine px_PW.ret kt_167.2 rfl rfl ?_
    have E : s_mlaw F use a b c = (-1000000000 - 1) := if_neg c0
    rw [E]
    exact ⟨rfl, _, _, px_sm.err, rfl⟩
def r_jo (Ar Br : Nat → Int32) (P : Nat) (from_ to : Int32) : Int32 := nI (zz_cnt (fun k => decide (¬ (to < Ar k + Br k) ∧ ¬ (Ar (k + 1) < from_))) (P - 1) 0 0)
def r_to (Ar Br : Nat → Int32) (P : Nat) (from_ to : Int32) : Int32 := nI (zz_cnt (fun k => decide (¬ (to ≤ Ar k) ∧ ¬ (Ar k + Br k ≤ from_))) P 0 0)
def r_hi (t : Int32) (Ar Br : Nat → Int32) (P : Nat) (from_ to : Int32) : Int32 := nI (zz_cnt (fun k => decide (¬ (t ≤ Br k) ∧ ¬ (Ar k < from_) ∧ ¬ (to < Ar k + Br k))) P 0 0)
def r_ga (Ar Br : Nat → Int32) (P : Nat) (from_ to : Int32) : Int32 := zz_gp Ar Br from_ to P 0 (s_ap (Ar 0) from_)
def s_mhs (f : Nat → Int32) (Ar Br : Nat → Int32) (P n : Nat) : Int32 := (if (r_jo Ar Br P (f (12 + 4 * n + 2)) ((f (12 + 4 * n + 2)) + (f (12 + 4 * n + 3)))) ≤ 0 then (if 10 ≤ (r_ga Ar Br P (f (12 + 4 * n + 2)) ((f (12 + 4 * n + 2)) + (f (12 + 4 * n + 3)))) then (if (f (12 + 4 * n + 0)) = 1 then 1 else (if (f (12 + 4 * n + 0)) = 2 then ((r_to Ar Br P (f (12 + 4 * n + 2)) ((f (12 + 4 * n + 2)) + (f (12 + 4 * n + 3)))) - 1) else (if (f (12 + 4 * n + 0)) = 3 then (-(r_hi (f 1) Ar Br P (f (12 + 4 * n + 2)) ((f (12 + 4 * n + 2)) + (f (12 + 4 * n + 3))))) else (if (f (12 + 4 * n + 0)) = 4 then (2 * 1) else (if (f (12 + 4 * n + 0)) = 5 then (if 0 ≤ (((r_to Ar Br P (f (12 + 4 * n + 2)) ((f (12 + 4 * n + 2)) + (f (12 + 4 * n + 3)))) - 1) - 1) then (((r_to Ar Br P (f (12 + 4 * n + 2)) ((f (12 + 4 * n + 2)) + (f (12 + 4 * n + 3)))) - 1) - 1) else 0) else (if (f (12 + 4 * n + 0)) = 6 then ((f (12 + 4 * n + 1)) - (r_hi (f 1) Ar Br P (f (12 + 4 * n + 2)) ((f (12 + 4 * n + 2)) + (f (12 + 4 * n + 3))))) else 1)))))) else (if (f (12 + 4 * n + 0)) = 1 then (1 * ((f (12 + 4 * n + 1)) + 1)) else (if (f (12 + 4 * n + 0)) = 2 then ((r_to Ar Br P (f (12 + 4 * n + 2)) ((f (12 + 4 * n + 2)) + (f (12 + 4 * n + 3)))) - 1) else (if (f (12 + 4 * n + 0)) = 3 then (-(r_hi (f 1) Ar Br P (f (12 + 4 * n + 2)) ((f (12 + 4 * n + 2)) + (f (12 + 4 * n + 3))))) else (if (f (12 + 4 * n + 0)) = 4 then (2 * (1 * ((f (12 + 4 * n + 1)) + 1))) else (if (f (12 + 4 * n + 0)) = 5 then (if 0 ≤ (((r_to Ar Br P (f (12 + 4 * n + 2)) ((f (12 + 4 * n + 2)) + (f (12 + 4 * n + 3)))) - 1) - 1) then (((r_to Ar Br P (f (12 + 4 * n + 2)) ((f (12 + 4 * n + 2)) + (f (12 + 4 * n + 3)))) - 1) - 1) else 0) else (if (f (12 + 4 * n + 0)) = 6 then ((f (12 + 4 * n + 1)) - (r_hi (f 1) Ar Br P (f (12 + 4 * n + 2)) ((f (12 + 4 * n + 2)) + (f (12 + 4 * n + 3))))) else 1))))))) else (if 10 ≤ (r_ga Ar Br P (f (12 + 4 * n + 2)) ((f (12 + 4 * n + 2)) + (f (12 + 4 * n + 3)))) then (if (f (12 + 4 * n + 0)) = 1 then 0 else (if (f (12 + 4 * n + 0)) = 2 then ((r_to Ar Br P (f (12 + 4 * n + 2)) ((f (12 + 4 * n + 2)) + (f (12 + 4 * n + 3)))) - 0) else (if (f (12 + 4 * n + 0)) = 3 then (-(r_hi (f 1) Ar Br P (f (12 + 4 * n + 2)) ((f (12 + 4 * n + 2)) + (f (12 + 4 * n + 3))))) else (if (f (12 + 4 * n + 0)) = 4 then (2 * 0) else (if (f (12 + 4 * n + 0)) = 5 then (if 0 ≤ (((r_to Ar Br P (f (12 + 4 * n + 2)) ((f (12 + 4 * n + 2)) + (f (12 + 4 * n + 3)))) - 0) - 1) then (((r_to Ar Br P (f (12 + 4 * n + 2)) ((f (12 + 4 * n + 2)) + (f (12 + 4 * n + 3)))) - 0) - 1) else 0) else (if (f (12 + 4 * n + 0)) = 6 then ((f (12 + 4 * n + 1)) - (r_hi (f 1) Ar Br P (f (12 + 4 * n + 2)) ((f (12 + 4 * n + 2)) + (f (12 + 4 * n + 3))))) else 0)))))) else (if (f (12 + 4 * n + 0)) = 1 then (0 * ((f (12 + 4 * n + 1)) + 1)) else (if (f (12 + 4 * n + 0)) = 2 then ((r_to Ar Br P (f (12 + 4 * n + 2)) ((f (12 + 4 * n + 2)) + (f (12 + 4 * n + 3)))) - 0) else (if (f (12 + 4 * n + 0)) = 3 then (-(r_hi (f 1) Ar Br P (f (12 + 4 * n + 2)) ((f (12 + 4 * n + 2)) + (f (12 + 4 * n + 3))))) else (if (f (12 + 4 * n + 0)) = 4 then (2 * (0 * ((f (12 + 4 * n + 1)) + 1))) else (if (f (12 + 4 * n + 0)) = 5 then (if 0 ≤ (((r_to Ar Br P (f (12 + 4 * n + 2)) ((f (12 + 4 * n + 2)) + (f (12 + 4 * n + 3)))) - 0) - 1) then (((r_to Ar Br P (f (12 + 4 * n + 2)) ((f (12 + 4 * n + 2)) + (f (12 + 4 * n + 3)))) - 0) - 1) else 0) else (if (f (12 + 4 * n + 0)) = 6 then ((f (12 + 4 * n + 1)) - (r_hi (f 1) Ar Br P (f (12 + 4 * n + 2)) ((f (12 + 4 * n + 2)) + (f (12 + 4 * n + 3))))) else 0))))))))
theorem px_swd_153_67 {x : Int32} (c0 : ¬ (x = 1)) (c1 : ¬ (x = 2)) (c2 : ¬ (x = 3)) (c3 : ¬ (x = 4)) (c4 : ¬ (x = 5)) (c5 : ¬ (x = 6)) : px_sw 1 [104, 107, 117, 125, 130, 155] 169 x.toInt = 169 := by
  have d0 : ¬ (x.toInt = 1) := fun h => c0 (px_i_of h (by decide +kernel))
  have d1 : ¬ (x.toInt = 2) := fun h => c1 (px_i_of h (by decide +kernel))
  have d2 : ¬ (x.toInt = 3) := fun h => c2 (px_i_of h (by decide +kernel))
  have d3 : ¬ (x.toInt = 4) := fun h => c3 (px_i_of h (by decide +kernel))
  have d4 : ¬ (x.toInt = 5) := fun h => c4 (px_i_of h (by decide +kernel))
  have d5 : ¬ (x.toInt = 6) := fun h => c5 (px_i_of h (by decide +kernel))
  exact px_sw_d (fun y h1 h2 => by
    have h1 : (1 : Int) ≤ y := h1
    have h2 : y < 7 := h2
    rcases (show y = 1 ∨ y = 2 ∨ y = 3 ∨ y = 4 ∨ y = 5 ∨ y = 6 by omega) with rfl | rfl | rfl | rfl | rfl | rfl
    · exact Or.inl (fun h => d0 h)
    · exact Or.inl (fun h => d1 h)
    · exact Or.inl (fun h => d2 h)
    · exact Or.inl (fun h => d3 h)
    · exact Or.inl (fun h => d4 h)
    · exact Or.inl (fun h => d5 h))
theorem mm_harms {Z f A B : Nat → Int32} {F : Nat → Nat → Int32} {P : Nat} {Ar Br : Nat → Int32} (hP : P ≤ 100) (hP0 : 1 ≤ P) (hAB : ∀ j : Nat, j < P → A j = Ar j ∧ B j = Br j) {n : Nat} {t : Int32} (ht : t = nI n) (hn : n < 6) : px_PM 3 153 [.ref 1000, .int t] ([], px_MH (upd Z 5 (nI P)) (va_up (va_up (va_up F 0 f) 8 A) 9 B)) (fun r h' => r = some (.int (s_mhs f Ar Br P n)) ∧ h' = ([], px_MH (upd Z 5 (nI P)) (va_up (va_up (va_up F 0 f) 8 A) 9 B))) := by
  refine px_PM.start (nL := 7) (code := pc_153) rfl rfl ?_
  refine px_PW.steps kt_153.2 3 rfl ?_
  refine px_PW.callV kt_153.2 rfl rfl rfl rfl (mm_its (n := n) (k := 2) ht rfl hn (by decide)) (by decide) (fun v h1 q => ?_)
  obtain ⟨rfl, rfl⟩ := q
  refine px_PW.steps kt_153.2 5 rfl ?_
  refine px_PW.callV kt_153.2 rfl rfl rfl rfl (mm_its (n := n) (k := 3) ht rfl hn (by decide)) (by decide) (fun v h1 q => ?_)
  obtain ⟨rfl, rfl⟩ := q
  refine px_PW.steps kt_153.2 5 rfl ?_
  refine px_PW.callV kt_153.2 rfl rfl rfl rfl (mm_joints (f := f) hP hAB _ _) (by decide) (fun v h1 q => ?_)
  obtain ⟨rfl, rfl⟩ := q
  refine px_PW.steps kt_153.2 1 rfl ?_
  refine px_PW.br (fun c0 => ?_) (fun c0 => ?_)
  · have c0 : (r_jo Ar Br P (f (12 + 4 * n + 2)) ((f (12 + 4 * n + 2)) + (f (12 + 4 * n + 3)))) ≤ 0 := of_decide_eq_true c0
    refine px_PW.steps kt_153.2 5 rfl ?_
    refine px_PW.callV kt_153.2 rfl rfl rfl rfl (mm_gap (f := f) hP hAB hP0 _ _) (by decide) (fun v h1 q => ?_)
    obtain ⟨rfl, rfl⟩ := q
    refine px_PW.steps kt_153.2 2 rfl ?_
    refine px_PW.br (fun c1 => ?_) (fun c1 => ?_)
    · have c1 : 10 ≤ (r_ga Ar Br P (f (12 + 4 * n + 2)) ((f (12 + 4 * n + 2)) + (f (12 + 4 * n + 3)))) := of_decide_eq_true c1
      refine px_PW.steps kt_153.2 5 rfl ?_
      refine px_PW.callV kt_153.2 rfl rfl rfl rfl (mm_its (n := n) (k := 0) ht rfl hn (by decide)) (by decide) (fun v h1 q => ?_)
      obtain ⟨rfl, rfl⟩ := q
      refine px_PW.steps kt_153.2 1 rfl ?_
      by_cases c2 : (f (12 + 4 * n + 0)) = 1
      · refine px_PW.at (pc' := 104) (show px_sw 1 [104, 107, 117, 125, 130, 155] 169 ((f (12 + 4 * n + 0)) : Int32).toInt = 104 by rw [c2]; rfl) ?_
        refine px_PW.steps kt_153.2 1 rfl ?_
        refine px_PW.ret kt_153.2 rfl rfl ?_
        exact ⟨congrArg (fun z => some (Value.int z)) (show s_mhs f Ar Br P n = 1 from (if_pos c0).trans ((if_pos c1).trans (if_pos c2))).symm, rfl⟩
      · skip
        by_cases c3 : (f (12 + 4 * n + 0)) = 2
        · refine px_PW.at (pc' := 107) (show px_sw 1 [104, 107, 117, 125, 130, 155] 169 ((f (12 + 4 * n + 0)) : Int32).toInt = 107 by rw [c3]; rfl) ?_
          refine px_PW.steps kt_153.2 3 rfl ?_
          refine px_PW.callV kt_153.2 rfl rfl rfl rfl (mm_touches (f := f) hP hAB _ _) (by decide) (fun v h1 q => ?_)
          obtain ⟨rfl, rfl⟩ := q
          refine px_PW.steps kt_153.2 2 rfl ?_
          refine px_PW.ret kt_153.2 rfl rfl ?_
          exact ⟨congrArg (fun z => some (Value.int z)) (show s_mhs f Ar Br P n = ((r_to Ar Br P (f (12 + 4 * n + 2)) ((f (12 + 4 * n + 2)) + (f (12 + 4 * n + 3)))) - 1) from (if_pos c0).trans ((if_pos c1).trans ((if_neg c2).trans (if_pos c3)))).symm, rfl⟩
        · skip
          by_cases c4 : (f (12 + 4 * n + 0)) = 3
          · refine px_PW.at (pc' := 117) (show px_sw 1 [104, 107, 117, 125, 130, 155] 169 ((f (12 + 4 * n + 0)) : Int32).toInt = 117 by rw [c4]; rfl) ?_
            refine px_PW.steps kt_153.2 3 rfl ?_
            refine px_PW.callV kt_153.2 rfl rfl rfl rfl (mm_hides (f := f) hP hAB _ _) (by decide) (fun v h1 q => ?_)
            obtain ⟨rfl, rfl⟩ := q
            refine px_PW.steps kt_153.2 1 rfl ?_
            refine px_PW.ret kt_153.2 rfl rfl ?_
            exact ⟨congrArg (fun z => some (Value.int z)) (show s_mhs f Ar Br P n = (-(r_hi (f 1) Ar Br P (f (12 + 4 * n + 2)) ((f (12 + 4 * n + 2)) + (f (12 + 4 * n + 3))))) from (if_pos c0).trans ((if_pos c1).trans ((if_neg c2).trans ((if_neg c3).trans (if_pos c4))))).symm, rfl⟩
          · skip
            by_cases c5 : (f (12 + 4 * n + 0)) = 4
            · refine px_PW.at (pc' := 125) (show px_sw 1 [104, 107, 117, 125, 130, 155] 169 ((f (12 + 4 * n + 0)) : Int32).toInt = 125 by rw [c5]; rfl) ?_
              refine px_PW.steps kt_153.2 3 rfl ?_
              refine px_PW.ret kt_153.2 rfl rfl ?_
              exact ⟨congrArg (fun z => some (Value.int z)) (show s_mhs f Ar Br P n = (2 * 1) from (if_pos c0).trans ((if_pos c1).trans ((if_neg c2).trans ((if_neg c3).trans ((if_neg c4).trans (if_pos c5)))))).symm, rfl⟩
            · skip
              by_cases c6 : (f (12 + 4 * n + 0)) = 5
              · refine px_PW.at (pc' := 130) (show px_sw 1 [104, 107, 117, 125, 130, 155] 169 ((f (12 + 4 * n + 0)) : Int32).toInt = 130 by rw [c6]; rfl) ?_
                refine px_PW.steps kt_153.2 3 rfl ?_
                refine px_PW.callV kt_153.2 rfl rfl rfl rfl (mm_touches (f := f) hP hAB _ _) (by decide) (fun v h1 q => ?_)
                obtain ⟨rfl, rfl⟩ := q
                refine px_PW.steps kt_153.2 7 rfl ?_
                refine px_PW.br (fun c7 => ?_) (fun c7 => ?_)
                · have c7 : 0 ≤ (((r_to Ar Br P (f (12 + 4 * n + 2)) ((f (12 + 4 * n + 2)) + (f (12 + 4 * n + 3)))) - 1) - 1) := of_decide_eq_true c7
                  refine px_PW.steps kt_153.2 1 rfl ?_
                  refine px_PW.ret kt_153.2 rfl rfl ?_
                  exact ⟨congrArg (fun z => some (Value.int z)) (show s_mhs f Ar Br P n = (((r_to Ar Br P (f (12 + 4 * n + 2)) ((f (12 + 4 * n + 2)) + (f (12 + 4 * n + 3)))) - 1) - 1) from (if_pos c0).trans ((if_pos c1).trans ((if_neg c2).trans ((if_neg c3).trans ((if_neg c4).trans ((if_neg c5).trans ((if_pos c6).trans (if_pos c7)))))))).symm, rfl⟩
                · have c7 : ¬ (0 ≤ (((r_to Ar Br P (f (12 + 4 * n + 2)) ((f (12 + 4 * n + 2)) + (f (12 + 4 * n + 3)))) - 1) - 1)) := of_decide_eq_false c7
                  refine px_PW.steps kt_153.2 2 rfl ?_
                  refine px_PW.ret kt_153.2 rfl rfl ?_
                  exact ⟨congrArg (fun z => some (Value.int z)) (show s_mhs f Ar Br P n = 0 from (if_pos c0).trans ((if_pos c1).trans ((if_neg c2).trans ((if_neg c3).trans ((if_neg c4).trans ((if_neg c5).trans ((if_pos c6).trans (if_neg c7)))))))).symm, rfl⟩
              · skip
                by_cases c8 : (f (12 + 4 * n + 0)) = 6
                · refine px_PW.at (pc' := 155) (show px_sw 1 [104, 107, 117, 125, 130, 155] 169 ((f (12 + 4 * n + 0)) : Int32).toInt = 155 by rw [c8]; rfl) ?_
                  refine px_PW.steps kt_153.2 3 rfl ?_
                  refine px_PW.callV kt_153.2 rfl rfl rfl rfl (mm_its (n := n) (k := 1) ht rfl hn (by decide)) (by decide) (fun v h1 q => ?_)
                  obtain ⟨rfl, rfl⟩ := q
                  refine px_PW.steps kt_153.2 3 rfl ?_
                  refine px_PW.callV kt_153.2 rfl rfl rfl rfl (mm_hides (f := f) hP hAB _ _) (by decide) (fun v h1 q => ?_)
                  obtain ⟨rfl, rfl⟩ := q
                  refine px_PW.steps kt_153.2 1 rfl ?_
                  refine px_PW.ret kt_153.2 rfl rfl ?_
                  exact ⟨congrArg (fun z => some (Value.int z)) (show s_mhs f Ar Br P n = ((f (12 + 4 * n + 1)) - (r_hi (f 1) Ar Br P (f (12 + 4 * n + 2)) ((f (12 + 4 * n + 2)) + (f (12 + 4 * n + 3))))) from (if_pos c0).trans ((if_pos c1).trans ((if_neg c2).trans ((if_neg c3).trans ((if_neg c4).trans ((if_neg c5).trans ((if_neg c6).trans (if_pos c8)))))))).symm, rfl⟩
                · skip
                  refine px_PW.at (px_swd_153_67 c2 c3 c4 c5 c6 c8) ?_
                  refine px_PW.steps kt_153.2 1 rfl ?_
                  refine px_PW.ret kt_153.2 rfl rfl ?_
                  exact ⟨congrArg (fun z => some (Value.int z)) (show s_mhs f Ar Br P n = 1 from (if_pos c0).trans ((if_pos c1).trans ((if_neg c2).trans ((if_neg c3).trans ((if_neg c4).trans ((if_neg c5).trans ((if_neg c6).trans (if_neg c8)))))))).symm, rfl⟩
    · have c1 : ¬ (10 ≤ (r_ga Ar Br P (f (12 + 4 * n + 2)) ((f (12 + 4 * n + 2)) + (f (12 + 4 * n + 3))))) := of_decide_eq_false c1
      refine px_PW.steps kt_153.2 4 rfl ?_
      refine px_PW.callV kt_153.2 rfl rfl rfl rfl (mm_its (n := n) (k := 1) ht rfl hn (by decide)) (by decide) (fun v h1 q => ?_)
      obtain ⟨rfl, rfl⟩ := q
      refine px_PW.steps kt_153.2 8 rfl ?_
      refine px_PW.callV kt_153.2 rfl rfl rfl rfl (mm_its (n := n) (k := 0) ht rfl hn (by decide)) (by decide) (fun v h1 q => ?_)
      obtain ⟨rfl, rfl⟩ := q
      refine px_PW.steps kt_153.2 1 rfl ?_
      by_cases c9 : (f (12 + 4 * n + 0)) = 1
      · refine px_PW.at (pc' := 104) (show px_sw 1 [104, 107, 117, 125, 130, 155] 169 ((f (12 + 4 * n + 0)) : Int32).toInt = 104 by rw [c9]; rfl) ?_
        refine px_PW.steps kt_153.2 1 rfl ?_
        refine px_PW.ret kt_153.2 rfl rfl ?_
        exact ⟨congrArg (fun z => some (Value.int z)) (show s_mhs f Ar Br P n = (1 * ((f (12 + 4 * n + 1)) + 1)) from (if_pos c0).trans ((if_neg c1).trans (if_pos c9))).symm, rfl⟩
      · skip
        by_cases c10 : (f (12 + 4 * n + 0)) = 2
        · refine px_PW.at (pc' := 107) (show px_sw 1 [104, 107, 117, 125, 130, 155] 169 ((f (12 + 4 * n + 0)) : Int32).toInt = 107 by rw [c10]; rfl) ?_
          refine px_PW.steps kt_153.2 3 rfl ?_
          refine px_PW.callV kt_153.2 rfl rfl rfl rfl (mm_touches (f := f) hP hAB _ _) (by decide) (fun v h1 q => ?_)
          obtain ⟨rfl, rfl⟩ := q
          refine px_PW.steps kt_153.2 2 rfl ?_
          refine px_PW.ret kt_153.2 rfl rfl ?_
          exact ⟨congrArg (fun z => some (Value.int z)) (show s_mhs f Ar Br P n = ((r_to Ar Br P (f (12 + 4 * n + 2)) ((f (12 + 4 * n + 2)) + (f (12 + 4 * n + 3)))) - 1) from (if_pos c0).trans ((if_neg c1).trans ((if_neg c9).trans (if_pos c10)))).symm, rfl⟩
        · skip
          by_cases c11 : (f (12 + 4 * n + 0)) = 3
          · refine px_PW.at (pc' := 117) (show px_sw 1 [104, 107, 117, 125, 130, 155] 169 ((f (12 + 4 * n + 0)) : Int32).toInt = 117 by rw [c11]; rfl) ?_
            refine px_PW.steps kt_153.2 3 rfl ?_
            refine px_PW.callV kt_153.2 rfl rfl rfl rfl (mm_hides (f := f) hP hAB _ _) (by decide) (fun v h1 q => ?_)
            obtain ⟨rfl, rfl⟩ := q
            refine px_PW.steps kt_153.2 1 rfl ?_
            refine px_PW.ret kt_153.2 rfl rfl ?_
            exact ⟨congrArg (fun z => some (Value.int z)) (show s_mhs f Ar Br P n = (-(r_hi (f 1) Ar Br P (f (12 + 4 * n + 2)) ((f (12 + 4 * n + 2)) + (f (12 + 4 * n + 3))))) from (if_pos c0).trans ((if_neg c1).trans ((if_neg c9).trans ((if_neg c10).trans (if_pos c11))))).symm, rfl⟩
          · skip
            by_cases c12 : (f (12 + 4 * n + 0)) = 4
            · refine px_PW.at (pc' := 125) (show px_sw 1 [104, 107, 117, 125, 130, 155] 169 ((f (12 + 4 * n + 0)) : Int32).toInt = 125 by rw [c12]; rfl) ?_
              refine px_PW.steps kt_153.2 3 rfl ?_
              refine px_PW.ret kt_153.2 rfl rfl ?_
              exact ⟨congrArg (fun z => some (Value.int z)) (show s_mhs f Ar Br P n = (2 * (1 * ((f (12 + 4 * n + 1)) + 1))) from (if_pos c0).trans ((if_neg c1).trans ((if_neg c9).trans ((if_neg c10).trans ((if_neg c11).trans (if_pos c12)))))).symm, rfl⟩
            · skip
              by_cases c13 : (f (12 + 4 * n + 0)) = 5
              · refine px_PW.at (pc' := 130) (show px_sw 1 [104, 107, 117, 125, 130, 155] 169 ((f (12 + 4 * n + 0)) : Int32).toInt = 130 by rw [c13]; rfl) ?_
                refine px_PW.steps kt_153.2 3 rfl ?_
                refine px_PW.callV kt_153.2 rfl rfl rfl rfl (mm_touches (f := f) hP hAB _ _) (by decide) (fun v h1 q => ?_)
                obtain ⟨rfl, rfl⟩ := q
                refine px_PW.steps kt_153.2 7 rfl ?_
                refine px_PW.br (fun c14 => ?_) (fun c14 => ?_)
                · have c14 : 0 ≤ (((r_to Ar Br P (f (12 + 4 * n + 2)) ((f (12 + 4 * n + 2)) + (f (12 + 4 * n + 3)))) - 1) - 1) := of_decide_eq_true c14
                  refine px_PW.steps kt_153.2 1 rfl ?_
                  refine px_PW.ret kt_153.2 rfl rfl ?_
                  exact ⟨congrArg (fun z => some (Value.int z)) (show s_mhs f Ar Br P n = (((r_to Ar Br P (f (12 + 4 * n + 2)) ((f (12 + 4 * n + 2)) + (f (12 + 4 * n + 3)))) - 1) - 1) from (if_pos c0).trans ((if_neg c1).trans ((if_neg c9).trans ((if_neg c10).trans ((if_neg c11).trans ((if_neg c12).trans ((if_pos c13).trans (if_pos c14)))))))).symm, rfl⟩
                · have c14 : ¬ (0 ≤ (((r_to Ar Br P (f (12 + 4 * n + 2)) ((f (12 + 4 * n + 2)) + (f (12 + 4 * n + 3)))) - 1) - 1)) := of_decide_eq_false c14
                  refine px_PW.steps kt_153.2 2 rfl ?_
                  refine px_PW.ret kt_153.2 rfl rfl ?_
                  exact ⟨congrArg (fun z => some (Value.int z)) (show s_mhs f Ar Br P n = 0 from (if_pos c0).trans ((if_neg c1).trans ((if_neg c9).trans ((if_neg c10).trans ((if_neg c11).trans ((if_neg c12).trans ((if_pos c13).trans (if_neg c14)))))))).symm, rfl⟩
              · skip
                by_cases c15 : (f (12 + 4 * n + 0)) = 6
                · refine px_PW.at (pc' := 155) (show px_sw 1 [104, 107, 117, 125, 130, 155] 169 ((f (12 + 4 * n + 0)) : Int32).toInt = 155 by rw [c15]; rfl) ?_
                  refine px_PW.steps kt_153.2 3 rfl ?_
                  refine px_PW.callV kt_153.2 rfl rfl rfl rfl (mm_its (n := n) (k := 1) ht rfl hn (by decide)) (by decide) (fun v h1 q => ?_)
                  obtain ⟨rfl, rfl⟩ := q
                  refine px_PW.steps kt_153.2 3 rfl ?_
                  refine px_PW.callV kt_153.2 rfl rfl rfl rfl (mm_hides (f := f) hP hAB _ _) (by decide) (fun v h1 q => ?_)
                  obtain ⟨rfl, rfl⟩ := q
                  refine px_PW.steps kt_153.2 1 rfl ?_
                  refine px_PW.ret kt_153.2 rfl rfl ?_
                  exact ⟨congrArg (fun z => some (Value.int z)) (show s_mhs f Ar Br P n = ((f (12 + 4 * n + 1)) - (r_hi (f 1) Ar Br P (f (12 + 4 * n + 2)) ((f (12 + 4 * n + 2)) + (f (12 + 4 * n + 3))))) from (if_pos c0).trans ((if_neg c1).trans ((if_neg c9).trans ((if_neg c10).trans ((if_neg c11).trans ((if_neg c12).trans ((if_neg c13).trans (if_pos c15)))))))).symm, rfl⟩
                · skip
                  refine px_PW.at (px_swd_153_67 c9 c10 c11 c12 c13 c15) ?_
                  refine px_PW.steps kt_153.2 1 rfl ?_
                  refine px_PW.ret kt_153.2 rfl rfl ?_
                  exact ⟨congrArg (fun z => some (Value.int z)) (show s_mhs f Ar Br P n = 1 from (if_pos c0).trans ((if_neg c1).trans ((if_neg c9).trans ((if_neg c10).trans ((if_neg c11).trans ((if_neg c12).trans ((if_neg c13).trans (if_neg c15)))))))).symm, rfl⟩
  · have c0 : ¬ ((r_jo Ar Br P (f (12 + 4 * n + 2)) ((f (12 + 4 * n + 2)) + (f (12 + 4 * n + 3)))) ≤ 0) := of_decide_eq_false c0
    refine px_PW.steps kt_153.2 6 rfl ?_
    refine px_PW.callV kt_153.2 rfl rfl rfl rfl (mm_gap (f := f) hP hAB hP0 _ _) (by decide) (fun v h1 q => ?_)
    obtain ⟨rfl, rfl⟩ := q
    refine px_PW.steps kt_153.2 2 rfl ?_
    refine px_PW.br (fun c16 => ?_) (fun c16 => ?_)
    · have c16 : 10 ≤ (r_ga Ar Br P (f (12 + 4 * n + 2)) ((f (12 + 4 * n + 2)) + (f (12 + 4 * n + 3)))) := of_decide_eq_true c16
      refine px_PW.steps kt_153.2 5 rfl ?_
      refine px_PW.callV kt_153.2 rfl rfl rfl rfl (mm_its (n := n) (k := 0) ht rfl hn (by decide)) (by decide) (fun v h1 q => ?_)
      obtain ⟨rfl, rfl⟩ := q
      refine px_PW.steps kt_153.2 1 rfl ?_
      by_cases c17 : (f (12 + 4 * n + 0)) = 1
      · refine px_PW.at (pc' := 104) (show px_sw 1 [104, 107, 117, 125, 130, 155] 169 ((f (12 + 4 * n + 0)) : Int32).toInt = 104 by rw [c17]; rfl) ?_
        refine px_PW.steps kt_153.2 1 rfl ?_
        refine px_PW.ret kt_153.2 rfl rfl ?_
        exact ⟨congrArg (fun z => some (Value.int z)) (show s_mhs f Ar Br P n = 0 from (if_neg c0).trans ((if_pos c16).trans (if_pos c17))).symm, rfl⟩
      · skip
        by_cases c18 : (f (12 + 4 * n + 0)) = 2
        · refine px_PW.at (pc' := 107) (show px_sw 1 [104, 107, 117, 125, 130, 155] 169 ((f (12 + 4 * n + 0)) : Int32).toInt = 107 by rw [c18]; rfl) ?_
          refine px_PW.steps kt_153.2 3 rfl ?_
          refine px_PW.callV kt_153.2 rfl rfl rfl rfl (mm_touches (f := f) hP hAB _ _) (by decide) (fun v h1 q => ?_)
          obtain ⟨rfl, rfl⟩ := q
          refine px_PW.steps kt_153.2 2 rfl ?_
          refine px_PW.ret kt_153.2 rfl rfl ?_
          exact ⟨congrArg (fun z => some (Value.int z)) (show s_mhs f Ar Br P n = ((r_to Ar Br P (f (12 + 4 * n + 2)) ((f (12 + 4 * n + 2)) + (f (12 + 4 * n + 3)))) - 0) from (if_neg c0).trans ((if_pos c16).trans ((if_neg c17).trans (if_pos c18)))).symm, rfl⟩
        · skip
          by_cases c19 : (f (12 + 4 * n + 0)) = 3
          · refine px_PW.at (pc' := 117) (show px_sw 1 [104, 107, 117, 125, 130, 155] 169 ((f (12 + 4 * n + 0)) : Int32).toInt = 117 by rw [c19]; rfl) ?_
            refine px_PW.steps kt_153.2 3 rfl ?_
            refine px_PW.callV kt_153.2 rfl rfl rfl rfl (mm_hides (f := f) hP hAB _ _) (by decide) (fun v h1 q => ?_)
            obtain ⟨rfl, rfl⟩ := q
            refine px_PW.steps kt_153.2 1 rfl ?_
            refine px_PW.ret kt_153.2 rfl rfl ?_
            exact ⟨congrArg (fun z => some (Value.int z)) (show s_mhs f Ar Br P n = (-(r_hi (f 1) Ar Br P (f (12 + 4 * n + 2)) ((f (12 + 4 * n + 2)) + (f (12 + 4 * n + 3))))) from (if_neg c0).trans ((if_pos c16).trans ((if_neg c17).trans ((if_neg c18).trans (if_pos c19))))).symm, rfl⟩
          · skip
            by_cases c20 : (f (12 + 4 * n + 0)) = 4
            · refine px_PW.at (pc' := 125) (show px_sw 1 [104, 107, 117, 125, 130, 155] 169 ((f (12 + 4 * n + 0)) : Int32).toInt = 125 by rw [c20]; rfl) ?_
              refine px_PW.steps kt_153.2 3 rfl ?_
              refine px_PW.ret kt_153.2 rfl rfl ?_
              exact ⟨congrArg (fun z => some (Value.int z)) (show s_mhs f Ar Br P n = (2 * 0) from (if_neg c0).trans ((if_pos c16).trans ((if_neg c17).trans ((if_neg c18).trans ((if_neg c19).trans (if_pos c20)))))).symm, rfl⟩
            · skip
              by_cases c21 : (f (12 + 4 * n + 0)) = 5
              · refine px_PW.at (pc' := 130) (show px_sw 1 [104, 107, 117, 125, 130, 155] 169 ((f (12 + 4 * n + 0)) : Int32).toInt = 130 by rw [c21]; rfl) ?_
                refine px_PW.steps kt_153.2 3 rfl ?_
                refine px_PW.callV kt_153.2 rfl rfl rfl rfl (mm_touches (f := f) hP hAB _ _) (by decide) (fun v h1 q => ?_)
                obtain ⟨rfl, rfl⟩ := q
                refine px_PW.steps kt_153.2 7 rfl ?_
                refine px_PW.br (fun c22 => ?_) (fun c22 => ?_)
                · have c22 : 0 ≤ (((r_to Ar Br P (f (12 + 4 * n + 2)) ((f (12 + 4 * n + 2)) + (f (12 + 4 * n + 3)))) - 0) - 1) := of_decide_eq_true c22
                  refine px_PW.steps kt_153.2 1 rfl ?_
                  refine px_PW.ret kt_153.2 rfl rfl ?_
                  exact ⟨congrArg (fun z => some (Value.int z)) (show s_mhs f Ar Br P n = (((r_to Ar Br P (f (12 + 4 * n + 2)) ((f (12 + 4 * n + 2)) + (f (12 + 4 * n + 3)))) - 0) - 1) from (if_neg c0).trans ((if_pos c16).trans ((if_neg c17).trans ((if_neg c18).trans ((if_neg c19).trans ((if_neg c20).trans ((if_pos c21).trans (if_pos c22)))))))).symm, rfl⟩
                · have c22 : ¬ (0 ≤ (((r_to Ar Br P (f (12 + 4 * n + 2)) ((f (12 + 4 * n + 2)) + (f (12 + 4 * n + 3)))) - 0) - 1)) := of_decide_eq_false c22
                  refine px_PW.steps kt_153.2 2 rfl ?_
                  refine px_PW.ret kt_153.2 rfl rfl ?_
                  exact ⟨congrArg (fun z => some (Value.int z)) (show s_mhs f Ar Br P n = 0 from (if_neg c0).trans ((if_pos c16).trans ((if_neg c17).trans ((if_neg c18).trans ((if_neg c19).trans ((if_neg c20).trans ((if_pos c21).trans (if_neg c22)))))))).symm, rfl⟩
              · skip
                by_cases c23 : (f (12 + 4 * n + 0)) = 6
                · refine px_PW.at (pc' := 155) (show px_sw 1 [104, 107, 117, 125, 130, 155] 169 ((f (12 + 4 * n + 0)) : Int32).toInt = 155 by rw [c23]; rfl) ?_
                  refine px_PW.steps kt_153.2 3 rfl ?_
                  refine px_PW.callV kt_153.2 rfl rfl rfl rfl (mm_its (n := n) (k := 1) ht rfl hn (by decide)) (by decide) (fun v h1 q => ?_)
                  obtain ⟨rfl, rfl⟩ := q
                  refine px_PW.steps kt_153.2 3 rfl ?_
                  refine px_PW.callV kt_153.2 rfl rfl rfl rfl (mm_hides (f := f) hP hAB _ _) (by decide) (fun v h1 q => ?_)
                  obtain ⟨rfl, rfl⟩ := q
                  refine px_PW.steps kt_153.2 1 rfl ?_
                  refine px_PW.ret kt_153.2 rfl rfl ?_
                  exact ⟨congrArg (fun z => some (Value.int z)) (show s_mhs f Ar Br P n = ((f (12 + 4 * n + 1)) - (r_hi (f 1) Ar Br P (f (12 + 4 * n + 2)) ((f (12 + 4 * n + 2)) + (f (12 + 4 * n + 3))))) from (if_neg c0).trans ((if_pos c16).trans ((if_neg c17).trans ((if_neg c18).trans ((if_neg c19).trans ((if_neg c20).trans ((if_neg c21).trans (if_pos c23)))))))).symm, rfl⟩
                · skip
                  refine px_PW.at (px_swd_153_67 c17 c18 c19 c20 c21 c23) ?_
                  refine px_PW.steps kt_153.2 1 rfl ?_
                  refine px_PW.ret kt_153.2 rfl rfl ?_
                  exact ⟨congrArg (fun z => some (Value.int z)) (show s_mhs f Ar Br P n = 0 from (if_neg c0).trans ((if_pos c16).trans ((if_neg c17).trans ((if_neg c18).trans ((if_neg c19).trans ((if_neg c20).trans ((if_neg c21).trans (if_neg c23)))))))).symm, rfl⟩
    · have c16 : ¬ (10 ≤ (r_ga Ar Br P (f (12 + 4 * n + 2)) ((f (12 + 4 * n + 2)) + (f (12 + 4 * n + 3))))) := of_decide_eq_false c16
      refine px_PW.steps kt_153.2 4 rfl ?_
      refine px_PW.callV kt_153.2 rfl rfl rfl rfl (mm_its (n := n) (k := 1) ht rfl hn (by decide)) (by decide) (fun v h1 q => ?_)
      obtain ⟨rfl, rfl⟩ := q
      refine px_PW.steps kt_153.2 8 rfl ?_
      refine px_PW.callV kt_153.2 rfl rfl rfl rfl (mm_its (n := n) (k := 0) ht rfl hn (by decide)) (by decide) (fun v h1 q => ?_)
      obtain ⟨rfl, rfl⟩ := q
      refine px_PW.steps kt_153.2 1 rfl ?_
      by_cases c24 : (f (12 + 4 * n + 0)) = 1
      · refine px_PW.at (pc' := 104) (show px_sw 1 [104, 107, 117, 125, 130, 155] 169 ((f (12 + 4 * n + 0)) : Int32).toInt = 104 by rw [c24]; rfl) ?_
        refine px_PW.steps kt_153.2 1 rfl ?_
        refine px_PW.ret kt_153.2 rfl rfl ?_
        exact ⟨congrArg (fun z => some (Value.int z)) (show s_mhs f Ar Br P n = (0 * ((f (12 + 4 * n + 1)) + 1)) from (if_neg c0).trans ((if_neg c16).trans (if_pos c24))).symm, rfl⟩
      · skip
        by_cases c25 : (f (12 + 4 * n + 0)) = 2
        · refine px_PW.at (pc' := 107) (show px_sw 1 [104, 107, 117, 125, 130, 155] 169 ((f (12 + 4 * n + 0)) : Int32).toInt = 107 by rw [c25]; rfl) ?_
          refine px_PW.steps kt_153.2 3 rfl ?_
          refine px_PW.callV kt_153.2 rfl rfl rfl rfl (mm_touches (f := f) hP hAB _ _) (by decide) (fun v h1 q => ?_)
          obtain ⟨rfl, rfl⟩ := q
          refine px_PW.steps kt_153.2 2 rfl ?_
          refine px_PW.ret kt_153.2 rfl rfl ?_
          exact ⟨congrArg (fun z => some (Value.int z)) (show s_mhs f Ar Br P n = ((r_to Ar Br P (f (12 + 4 * n + 2)) ((f (12 + 4 * n + 2)) + (f (12 + 4 * n + 3)))) - 0) from (if_neg c0).trans ((if_neg c16).trans ((if_neg c24).trans (if_pos c25)))).symm, rfl⟩
        · skip
          by_cases c26 : (f (12 + 4 * n + 0)) = 3
          · refine px_PW.at (pc' := 117) (show px_sw 1 [104, 107, 117, 125, 130, 155] 169 ((f (12 + 4 * n + 0)) : Int32).toInt = 117 by rw [c26]; rfl) ?_
            refine px_PW.steps kt_153.2 3 rfl ?_
            refine px_PW.callV kt_153.2 rfl rfl rfl rfl (mm_hides (f := f) hP hAB _ _) (by decide) (fun v h1 q => ?_)
            obtain ⟨rfl, rfl⟩ := q
            refine px_PW.steps kt_153.2 1 rfl ?_
            refine px_PW.ret kt_153.2 rfl rfl ?_
            exact ⟨congrArg (fun z => some (Value.int z)) (show s_mhs f Ar Br P n = (-(r_hi (f 1) Ar Br P (f (12 + 4 * n + 2)) ((f (12 + 4 * n + 2)) + (f (12 + 4 * n + 3))))) from (if_neg c0).trans ((if_neg c16).trans ((if_neg c24).trans ((if_neg c25).trans (if_pos c26))))).symm, rfl⟩
          · skip
            by_cases c27 : (f (12 + 4 * n + 0)) = 4
            · refine px_PW.at (pc' := 125) (show px_sw 1 [104, 107, 117, 125, 130, 155] 169 ((f (12 + 4 * n + 0)) : Int32).toInt = 125 by rw [c27]; rfl) ?_
              refine px_PW.steps kt_153.2 3 rfl ?_
              refine px_PW.ret kt_153.2 rfl rfl ?_
              exact ⟨congrArg (fun z => some (Value.int z)) (show s_mhs f Ar Br P n = (2 * (0 * ((f (12 + 4 * n + 1)) + 1))) from (if_neg c0).trans ((if_neg c16).trans ((if_neg c24).trans ((if_neg c25).trans ((if_neg c26).trans (if_pos c27)))))).symm, rfl⟩
            · skip
              by_cases c28 : (f (12 + 4 * n + 0)) = 5
              · refine px_PW.at (pc' := 130) (show px_sw 1 [104, 107, 117, 125, 130, 155] 169 ((f (12 + 4 * n + 0)) : Int32).toInt = 130 by rw [c28]; rfl) ?_
                refine px_PW.steps kt_153.2 3 rfl ?_
                refine px_PW.callV kt_153.2 rfl rfl rfl rfl (mm_touches (f := f) hP hAB _ _) (by decide) (fun v h1 q => ?_)
                obtain ⟨rfl, rfl⟩ := q
                refine px_PW.steps kt_153.2 7 rfl ?_
                refine px_PW.br (fun c29 => ?_) (fun c29 => ?_)
                · have c29 : 0 ≤ (((r_to Ar Br P (f (12 + 4 * n + 2)) ((f (12 + 4 * n + 2)) + (f (12 + 4 * n + 3)))) - 0) - 1) := of_decide_eq_true c29
                  refine px_PW.steps kt_153.2 1 rfl ?_
                  refine px_PW.ret kt_153.2 rfl rfl ?_
                  exact ⟨congrArg (fun z => some (Value.int z)) (show s_mhs f Ar Br P n = (((r_to Ar Br P (f (12 + 4 * n + 2)) ((f (12 + 4 * n + 2)) + (f (12 + 4 * n + 3)))) - 0) - 1) from (if_neg c0).trans ((if_neg c16).trans ((if_neg c24).trans ((if_neg c25).trans ((if_neg c26).trans ((if_neg c27).trans ((if_pos c28).trans (if_pos c29)))))))).symm, rfl⟩
                · have c29 : ¬ (0 ≤ (((r_to Ar Br P (f (12 + 4 * n + 2)) ((f (12 + 4 * n + 2)) + (f (12 + 4 * n + 3)))) - 0) - 1)) := of_decide_eq_false c29
                  refine px_PW.steps kt_153.2 2 rfl ?_
                  refine px_PW.ret kt_153.2 rfl rfl ?_
                  exact ⟨congrArg (fun z => some (Value.int z)) (show s_mhs f Ar Br P n = 0 from (if_neg c0).trans ((if_neg c16).trans ((if_neg c24).trans ((if_neg c25).trans ((if_neg c26).trans ((if_neg c27).trans ((if_pos c28).trans (if_neg c29)))))))).symm, rfl⟩
              · skip
                by_cases c30 : (f (12 + 4 * n + 0)) = 6
                · refine px_PW.at (pc' := 155) (show px_sw 1 [104, 107, 117, 125, 130, 155] 169 ((f (12 + 4 * n + 0)) : Int32).toInt = 155 by rw [c30]; rfl) ?_
                  refine px_PW.steps kt_153.2 3 rfl ?_
                  refine px_PW.callV kt_153.2 rfl rfl rfl rfl (mm_its (n := n) (k := 1) ht rfl hn (by decide)) (by decide) (fun v h1 q => ?_)
                  obtain ⟨rfl, rfl⟩ := q
                  refine px_PW.steps kt_153.2 3 rfl ?_
                  refine px_PW.callV kt_153.2 rfl rfl rfl rfl (mm_hides (f := f) hP hAB _ _) (by decide) (fun v h1 q => ?_)
                  obtain ⟨rfl, rfl⟩ := q
                  refine px_PW.steps kt_153.2 1 rfl ?_
                  refine px_PW.ret kt_153.2 rfl rfl ?_
                  exact ⟨congrArg (fun z => some (Value.int z)) (show s_mhs f Ar Br P n = ((f (12 + 4 * n + 1)) - (r_hi (f 1) Ar Br P (f (12 + 4 * n + 2)) ((f (12 + 4 * n + 2)) + (f (12 + 4 * n + 3))))) from (if_neg c0).trans ((if_neg c16).trans ((if_neg c24).trans ((if_neg c25).trans ((if_neg c26).trans ((if_neg c27).trans ((if_neg c28).trans (if_pos c30)))))))).symm, rfl⟩
                · skip
                  refine px_PW.at (px_swd_153_67 c24 c25 c26 c27 c28 c30) ?_
                  refine px_PW.steps kt_153.2 1 rfl ?_
                  refine px_PW.ret kt_153.2 rfl rfl ?_
                  exact ⟨congrArg (fun z => some (Value.int z)) (show s_mhs f Ar Br P n = 0 from (if_neg c0).trans ((if_neg c16).trans ((if_neg c24).trans ((if_neg c25).trans ((if_neg c26).trans ((if_neg c27).trans ((if_neg c28).trans (if_neg c30)))))))).symm, rfl⟩
theorem zz_c67 {α : Type} (F : Nat → α) (f A B a b : α) : va_up (va_up (va_up (va_up (va_up F 0 f) 8 A) 9 B) 6 a) 7 b = va_up (va_up (va_up (va_up (va_up F 6 a) 7 b) 0 f) 8 A) 9 B := by
  funext j
  unfold va_up
  by_cases h7 : j = 7
  · subst h7; rfl
  · by_cases h6 : j = 6
    · subst h6; rfl
    · by_cases h9 : j = 9
      · subst h9; rfl
      · by_cases h8 : j = 8
        · subst h8; rfl
        · by_cases h0 : j = 0
          · subst h0; rfl
          · simp only [if_neg h7, if_neg h6, if_neg h9, if_neg h8, if_neg h0]
theorem r_tx0_can {F : Nat → Nat → Int32} {f A B : Nat → Int32} (h : r_tx0 (va_up F 0 f)) : r_tx0 (va_up (va_up (va_up F 0 f) 8 A) 9 B) := h
theorem r_tx1_can {F : Nat → Nat → Int32} {f A B : Nat → Int32} (h : r_tx1 (va_up F 0 f)) : r_tx1 (va_up (va_up (va_up F 0 f) 8 A) 9 B) := h
/-- what the TEXT of HARM makes, from the row of numbers alone -/
def s_mt1 (f : Nat → Int32) (a b c : Int32) : Int32 := s_mtold1 (fun _ => f) a b c
theorem s_mt1_eq (F : Nat → Nat → Int32) (a b c : Int32) : s_mtold1 F a b c = s_mt1 (F 0) a b c := rfl
def s_mt0 (f : Nat → Int32) (a b c : Int32) : Int32 := s_mtold0 (fun _ => f) a b c
theorem s_mt0_eq (F : Nat → Nat → Int32) (a b c : Int32) : s_mtold0 F a b c = s_mt0 (F 0) a b c := rfl
def r_txf0 (f : Nat → Int32) : Prop := r_tx0 (fun _ => f)
def r_txf1 (f : Nat → Int32) : Prop := r_tx1 (fun _ => f)
theorem mm_harmOn {Z f A B : Nat → Int32} {F : Nat → Nat → Int32} {P : Nat} {Ar Br : Nat → Int32} (hP : P ≤ 100) (hP0 : 1 ≤ P) (hAB : ∀ j : Nat, j < P → A j = Ar j ∧ B j = Br j) {n : Nat} {t : Int32} (ht : t = nI n) (hn : n < 6) (htx : r_txf1 f) : px_PM 4 156 [.ref 1000, .int t] ([], px_MH (upd Z 5 (nI P)) (va_up (va_up (va_up F 0 f) 8 A) 9 B)) (fun r h' => r = some (.int (s_mt1 f (s_mhs f Ar Br P n) t (f (12 + 4 * n + 0)))) ∧ ∃ (n6 g7 : Nat → Int32), h' = ([], px_MH (upd Z 5 (nI P)) (va_up (va_up (va_up (va_up (va_up F 6 n6) 7 g7) 0 f) 8 A) 9 B))) := by
  refine px_PM.start (nL := 2) (code := pc_156) rfl rfl ?_
  refine px_PW.steps kt_156.2 3 rfl ?_
  refine px_PW.callV kt_156.2 rfl rfl rfl rfl (mm_harms (f := f) hP hP0 hAB ht hn) (by decide) (fun v h1 q => ?_)
  obtain ⟨rfl, rfl⟩ := q
  refine px_PW.steps kt_156.2 4 rfl ?_
  refine px_PW.callV kt_156.2 rfl rfl rfl rfl (mm_its (n := n) (k := 0) ht rfl hn (by decide)) (by decide) (fun v h1 q => ?_)
  obtain ⟨rfl, rfl⟩ := q
  refine px_PW.callV kt_156.2 rfl rfl rfl rfl (mm_told1 (F := (va_up (va_up (va_up F 0 f) 8 A) 9 B)) (show r_txf1 f from htx) _ _ _) (by decide) (fun v h1 q => ?_)
  obtain ⟨rfl, n6, g7, rfl⟩ := q
  refine px_PW.ret kt_156.2 rfl rfl ?_
  exact ⟨rfl, n6, g7, by rw [zz_c67]⟩
end
/-! part 48.mcalm -/
section
theorem zz_n67 {α : Type} (F : Nat → α) (a b c d : α) : va_up (va_up (va_up (va_up F 6 a) 7 b) 6 c) 7 d = va_up (va_up F 6 c) 7 d := by
  funext j
  unfold va_up
  by_cases h7 : j = 7
  · subst h7; rfl
  · by_cases h6 : j = 6
    · subst h6; rfl
    · simp only [if_neg h7, if_neg h6]
def r_hv (f Ar Br : Nat → Int32) (P t : Nat) : Int32 := s_mt1 f (s_mhs f Ar Br P t) (nI t) (f (12 + 4 * t + 0))
def r_hrow (f : Nat → Int32) (T J M : Nat) (e w P : Nat → Nat) (r : Nat) (a : Int32) : Int32 := c_fold (r_hv f (r_A (w r) T J) (r_B (e r) (w r) T J) (P r)) (fun x y => x + y) M 0 a
def r_hall (f : Nat → Int32) (T J M : Nat) (e w P : Nat → Nat) : Nat → Nat → Int32 → Int32
  | 0, _, a => a
  | m + 1, r, a => r_hall f T J M e w P m (r + 1) (r_hrow f T J M e w P r a)
theorem m_hr_loop {Z f A B : Nat → Int32} {F : Nat → Nat → Int32} {P : Nat} {Ar Br : Nat → Int32} (hP : P ≤ 100) (hP0 : 1 ≤ P) (hAB : ∀ j : Nat, j < P → A j = Ar j ∧ B j = Br j) {M : Nat} (hM : f 10 = nI M) (hM6 : M ≤ 6) (htx : r_txf1 f) {r : Nat} {Q : Option Value → px_H → Prop} : ∀ (m t : Nat) (a : Int32) (n6 g7 : Nat → Int32), t + m = M → (∀ (n6 g7 : Nat → Int32), px_PW 4 pc_157 Q 46 [some (.ref 1000), some (.int (c_fold (r_hv f Ar Br P) (fun x y => x + y) m t a)), some (.int (nI r)), some (.int (nI M))] [] ([], px_MH (upd Z 5 (nI P)) (va_up (va_up (va_up (va_up (va_up F 6 n6) 7 g7) 0 f) 8 A) 9 B))) → px_PW 4 pc_157 Q 21 [some (.ref 1000), some (.int a), some (.int (nI r)), some (.int (nI t))] [] ([], px_MH (upd Z 5 (nI P)) (va_up (va_up (va_up (va_up (va_up F 6 n6) 7 g7) 0 f) 8 A) 9 B))
  | m, t, a, n6, g7, ht, H => by
    refine px_PW.steps kt_157.2 4 rfl ?_
    refine px_PW.steps kt_157.2 1 rfl ?_
    refine px_PW.steps kt_157.2 1 rfl ?_
    refine px_PW.br (fun c0 => ?_) (fun c0 => ?_)
    · have c0 : (f 10) ≤ (nI t) := of_decide_eq_true c0
      have c0 : M ≤ t := by rw [hM] at c0; exact (nI_leI (a := M) (b := t) (by omega) (by omega)).mp c0
      obtain rfl : m = 0 := by omega
      obtain rfl : t = M := by omega
      exact H n6 g7
    · have c0 : ¬ ((f 10) ≤ (nI t)) := of_decide_eq_false c0
      have c0 : ¬ (M ≤ t) := fun q => c0 (by rw [hM]; exact (nI_leI (a := M) (b := t) (by omega) (by omega)).mpr q)
      obtain ⟨m2, rfl⟩ : ∃ m2, m = m2 + 1 := ⟨m - 1, by omega⟩
      refine px_PW.steps kt_157.2 3 rfl ?_
      refine px_PW.callV kt_157.2 rfl rfl rfl rfl (mm_harmOn (F := (va_up (va_up F 6 n6) 7 g7)) hP hP0 hAB (n := t) rfl (show t < 6 by omega) htx) (by decide) (fun v h1 q => ?_)
      obtain ⟨rfl, n61, g71, rfl⟩ := q
      rw [zz_n67]
      refine px_PW.steps kt_157.2 4 rfl ?_
      have g := m_hr_loop hP hP0 hAB hM hM6 htx (Z := Z) (F := F) (r := r) (Q := Q) m2 (t + 1) (a + r_hv f Ar Br P t) n61 g71 (by omega) H
      rw [nI_succ t] at g
      exact g
theorem m_ha_loop {Z f : Nat → Int32} {F : Nat → Nat → Int32} {T J R : Nat} {e w P : Nat → Nat} (ok : r_ok f T J R e w P) {M : Nat} (hM : f 10 = nI M) (hM6 : M ≤ 6) (htx : r_txf1 f) {Q : Option Value → px_H → Prop} : ∀ (m r : Nat) (a : Int32) (n6 g7 A B : Nat → Int32) (p : Int32) (o3 : Option Value), r + m = R → (∀ (n6 g7 A B : Nat → Int32) (p : Int32) (o3 : Option Value), px_PW 4 pc_157 Q 52 [some (.ref 1000), some (.int (r_hall f T J M e w P m r a)), some (.int (nI R)), o3] [] ([], px_MH (upd Z 5 p) (va_up (va_up (va_up (va_up (va_up F 6 n6) 7 g7) 0 f) 8 A) 9 B))) → px_PW 4 pc_157 Q 4 [some (.ref 1000), some (.int a), some (.int (nI r)), o3] [] ([], px_MH (upd Z 5 p) (va_up (va_up (va_up (va_up (va_up F 6 n6) 7 g7) 0 f) 8 A) 9 B))
  | m, r, a, n6, g7, A, B, p, o3, hr, H => by
    have hR8 := ok.2.2.2.2.2.1
    refine px_PW.steps kt_157.2 4 rfl ?_
    refine px_PW.steps kt_157.2 1 rfl ?_
    refine px_PW.steps kt_157.2 1 rfl ?_
    refine px_PW.br (fun c0 => ?_) (fun c0 => ?_)
    · have c0 : (f 4) ≤ (nI r) := of_decide_eq_true c0
      have c0 : R ≤ r := by rw [ok.2.2.1] at c0; exact (nI_leI (a := R) (b := r) (by omega) (by omega)).mp c0
      obtain rfl : m = 0 := by omega
      obtain rfl : r = R := by omega
      exact H _ _ _ _ _ _
    · have c0 : ¬ ((f 4) ≤ (nI r)) := of_decide_eq_false c0
      have c0 : ¬ (R ≤ r) := fun q => c0 (by rw [ok.2.2.1]; exact (nI_leI (a := R) (b := r) (by omega) (by omega)).mpr q)
      obtain ⟨m2, rfl⟩ : ∃ m2, m = m2 + 1 := ⟨m - 1, by omega⟩
      refine px_PW.steps kt_157.2 2 rfl ?_
      refine px_PW.callV kt_157.2 rfl rfl rfl rfl (mm_layR (F := (va_up (va_up F 6 n6) 7 g7)) (f := f) ok.1 ok.2.1 ok.2.2.2.1 ok.2.2.2.2.1 (ok.2.2.2.2.2.2 r (by omega))) (by decide) (fun v h1 q => ?_)
      obtain ⟨rfl, A9, B9, hAB9, rfl⟩ := q
      refine px_PW.steps kt_157.2 2 rfl ?_
      have hrow := ok.2.2.2.2.2.2 r (by omega)
      refine m_hr_loop (P := P r) hrow.2.2.2.2.1 hrow.2.2.2.2.2.1 hAB9 hM hM6 htx M 0 a n6 g7 (by omega) (fun n62 g72 => ?_)
      refine px_PW.steps kt_157.2 2 rfl ?_
      have g := m_ha_loop ok hM hM6 htx (Z := Z) (F := F) (Q := Q) m2 (r + 1) (r_hrow f T J M e w P r a) n62 g72 A9 B9 (nI (P r)) (some (.int (nI M))) (by omega) H
      rw [nI_succ r] at g
      exact g
theorem mm_ha {Z f A B : Nat → Int32} {F : Nat → Nat → Int32} {p : Int32} {T J R : Nat} {e w P : Nat → Nat} (ok : r_ok f T J R e w P) {M : Nat} (hM : f 10 = nI M) (hM6 : M ≤ 6) (htx : r_txf1 f) {n6 g7 : Nat → Int32} : px_PM 5 157 [.ref 1000] ([], px_MH (upd Z 5 p) (va_up (va_up (va_up (va_up (va_up F 6 n6) 7 g7) 0 f) 8 A) 9 B)) (fun r h' => r = some (.int (r_hall f T J M e w P R 0 0)) ∧ ∃ (n6 g7 A B : Nat → Int32) (p : Int32), h' = ([], px_MH (upd Z 5 p) (va_up (va_up (va_up (va_up (va_up F 6 n6) 7 g7) 0 f) 8 A) 9 B))) := by
  refine px_PM.start (nL := 4) (code := pc_157) rfl rfl ?_
  refine px_PW.steps kt_157.2 4 rfl ?_
  refine m_ha_loop ok hM hM6 htx R 0 0 n6 g7 A B p none (by omega) (fun n6 g7 A B p o3 => ?_)
  refine px_PW.steps kt_157.2 1 rfl ?_
  exact px_PW.ret kt_157.2 rfl rfl ⟨rfl, n6, g7, A, B, p, rfl⟩
theorem r_txf1_upd {f : Nat → Int32} (h : r_txf1 f) (x : Int32) : r_txf1 (upd f 6 x) := by
  have e1 : (fun k => upd f 6 x (162 + 2 * k)) = fun k => f (162 + 2 * k) := funext (fun k => px_upd_ne f x (by omega))
  have e2 : (fun k => upd f 6 x (163 + 2 * k)) = fun k => f (163 + 2 * k) := funext (fun k => px_upd_ne f x (by omega))
  rcases h with h | ⟨n, h1, h2, h3⟩
  · exact Or.inl h
  · refine Or.inr ⟨n, h1, h2, ?_⟩
    show r_wf r_ok1 (fun k => upd f 6 x (162 + 2 * k)) (fun k => upd f 6 x (163 + 2 * k)) n 0 0
    rw [e1, e2]
    exact h3
theorem zz_can67 (Z : Nat → Int32) (F : Nat → Nat → Int32) : px_MH Z F = px_MH (upd Z 5 (Z 5)) (va_up (va_up (va_up (va_up (va_up F 6 (F 6)) 7 (F 7)) 0 (F 0)) 8 (F 8)) 9 (F 9)) := by
  rw [zz_ui, px_up_id F 6, px_up_id F 7, px_up_id F 0, px_up_id F 8, px_up_id F 9]
theorem zz_sm2 {Z : Nat → Int32} {F : Nat → Nat → Int32} {n6 g7 A B : Nat → Int32} {p : Int32} : px_sm Z F (upd Z 5 p) (va_up (va_up (va_up (va_up (va_up F 6 n6) 7 g7) 0 (F 0)) 8 A) 9 B) := ⟨rfl, fun h => h, rfl, rfl, rfl, rfl, rfl, rfl, rfl⟩
def r_hS (f : Nat → Int32) (T J R M : Nat) (e : Nat → Nat) (w P : Nat → Nat → Nat) (s : Nat) : Int32 := r_hall (upd f 6 (nI s)) T J M e (w s) (P s) R 0 0
def s_mcalm (h : Nat → Int32) : Nat → Nat → Nat × Int32 → Nat × Int32
  | 0, _, a => a
  | m + 1, k, a => s_mcalm h m (k + 1) (if a.1 = 0 then (k, h k) else if a.2 ≤ h k then a else (k, h k))
theorem m_calm_loop {Z f : Nat → Int32} {F : Nat → Nat → Int32} {T J R : Nat} {e : Nat → Nat} {w P : Nat → Nat → Nat} (hTi : f 1 = nI T) (hT2 : T ≤ 200) (ok : ∀ s : Nat, 1 ≤ s → s ≤ T → r_ok (upd f 6 (nI s)) T J R e (w s) (P s)) {M : Nat} (hM : f 10 = nI M) (hM6 : M ≤ 6) (htx : r_txf1 f) {what was : Int32} {Q : Option Value → px_H → Prop} : ∀ (m k : Nat) (a : Nat × Int32) (n6 g7 A B : Nat → Int32) (p x : Int32) (o6 : Option Value), k + m = T + 1 → 1 ≤ k → a.1 < 1000 → (∀ (n6 g7 A B : Nat → Int32) (p x : Int32) (k2 : Nat) (o6 : Option Value), px_PW 5 pc_177 Q 81 [some (.ref 1000), some (.int what), some (.int was), some (.int (nI (s_mcalm (r_hS f T J R M e w P) m k a).1)), some (.int (s_mcalm (r_hS f T J R M e w P) m k a).2), some (.int (nI k2)), o6] [] ([], px_MH (upd Z 5 p) (va_up (va_up (va_up (va_up (va_up F 6 n6) 7 g7) 0 (upd f 6 x)) 8 A) 9 B))) → px_PW 5 pc_177 Q 31 [some (.ref 1000), some (.int what), some (.int was), some (.int (nI a.1)), some (.int a.2), some (.int (nI k)), o6] [] ([], px_MH (upd Z 5 p) (va_up (va_up (va_up (va_up (va_up F 6 n6) 7 g7) 0 (upd f 6 x)) 8 A) 9 B))
  | m, k, a, n6, g7, A, B, p, x, o6, hk, hk1, ha, H => by
    refine px_PW.steps kt_177.2 4 rfl ?_
    refine px_PW.steps kt_177.2 1 rfl ?_
    refine px_PW.steps kt_177.2 1 rfl ?_
    refine px_PW.br (fun c0 => ?_) (fun c0 => ?_)
    · have c0 : ((upd f 6 x) 1) < (nI k) := of_decide_eq_true c0
      have c0 : T < k := (nI_ltI (a := T) (b := k) (by omega) (by omega)).mp (by rw [← hTi]; exact c0)
      obtain rfl : m = 0 := by omega
      exact H _ _ _ _ _ _ _ _
    · have c0 : ¬ (((upd f 6 x) 1) < (nI k)) := of_decide_eq_false c0
      have c0 : ¬ (T < k) := fun q => c0 (show f 1 < nI k from by rw [hTi]; exact (nI_ltI (a := T) (b := k) (by omega) (by omega)).mpr q)
      obtain ⟨m2, rfl⟩ : ∃ m2, m = m2 + 1 := ⟨m - 1, by omega⟩
      refine px_PW.steps kt_177.2 4 rfl ?_
      refine mr_0 kt_177.2 rfl (n := 6) rfl (by decide) ?_
      rw [zz_uu]
      refine px_PW.steps kt_177.2 1 rfl ?_
      refine px_PW.callV kt_177.2 rfl rfl rfl rfl (mm_ha (f := upd f 6 (nI k)) (ok k (by omega) (by omega)) (show upd f 6 (nI k) 10 = nI M from hM) hM6 (r_txf1_upd htx _)) (by decide) (fun v h1 q => ?_)
      obtain ⟨rfl, n62, g72, A22, B22, p22, rfl⟩ := q
      refine px_PW.steps kt_177.2 3 rfl ?_
      refine px_PW.br (fun c1 => ?_) (fun c1 => ?_)
      · have c1 : (nI a.1) = 0 := of_decide_eq_true c1
        have c1 : a.1 = 0 := (nI_eq (b := 0) (by omega) (by omega)).mp c1
        refine px_PW.steps kt_177.2 6 rfl ?_
        have e0 : s_mcalm (r_hS f T J R M e w P) (m2 + 1) k a = s_mcalm (r_hS f T J R M e w P) m2 (k + 1) (k, (r_hS f T J R M e w P) k) := congrArg (s_mcalm (r_hS f T J R M e w P) m2 (k + 1)) (if_pos c1)
        have g := m_calm_loop hTi hT2 ok hM hM6 htx (Z := Z) (F := F) (what := what) (was := was) (Q := Q) m2 (k + 1) (k, (r_hS f T J R M e w P) k) n62 g72 A22 B22 p22 (nI k) (some (.int ((r_hS f T J R M e w P) k))) (by omega) (by omega) (by first | exact ha | (show k < 1000; omega)) (fun n6 g7 A B p x k9 o6 => by have h := H n6 g7 A B p x k9 o6; rw [e0] at h; exact h)
        rw [nI_succ k] at g
        exact g
      · have c1 : ¬ ((nI a.1) = 0) := of_decide_eq_false c1
        have c1 : ¬ (a.1 = 0) := fun q => c1 (by rw [q]; rfl)
        refine px_PW.steps kt_177.2 3 rfl ?_
        refine px_PW.br (fun c2 => ?_) (fun c2 => ?_)
        · have c2 : a.2 ≤ ((r_hS f T J R M e w P) k) := of_decide_eq_true c2
          refine px_PW.steps kt_177.2 2 rfl ?_
          have e0 : s_mcalm (r_hS f T J R M e w P) (m2 + 1) k a = s_mcalm (r_hS f T J R M e w P) m2 (k + 1) a := congrArg (s_mcalm (r_hS f T J R M e w P) m2 (k + 1)) ((if_neg c1).trans (if_pos c2))
          have g := m_calm_loop hTi hT2 ok hM hM6 htx (Z := Z) (F := F) (what := what) (was := was) (Q := Q) m2 (k + 1) a n62 g72 A22 B22 p22 (nI k) (some (.int ((r_hS f T J R M e w P) k))) (by omega) (by omega) (by first | exact ha | (show k < 1000; omega)) (fun n6 g7 A B p x k9 o6 => by have h := H n6 g7 A B p x k9 o6; rw [e0] at h; exact h)
          rw [nI_succ k] at g
          exact g
        · have c2 : ¬ (a.2 ≤ ((r_hS f T J R M e w P) k)) := of_decide_eq_false c2
          refine px_PW.steps kt_177.2 6 rfl ?_
          have e0 : s_mcalm (r_hS f T J R M e w P) (m2 + 1) k a = s_mcalm (r_hS f T J R M e w P) m2 (k + 1) (k, (r_hS f T J R M e w P) k) := congrArg (s_mcalm (r_hS f T J R M e w P) m2 (k + 1)) ((if_neg c1).trans (if_neg c2))
          have g := m_calm_loop hTi hT2 ok hM hM6 htx (Z := Z) (F := F) (what := what) (was := was) (Q := Q) m2 (k + 1) (k, (r_hS f T J R M e w P) k) n62 g72 A22 B22 p22 (nI k) (some (.int ((r_hS f T J R M e w P) k))) (by omega) (by omega) (by first | exact ha | (show k < 1000; omega)) (fun n6 g7 A B p x k9 o6 => by have h := H n6 g7 A B p x k9 o6; rw [e0] at h; exact h)
          rw [nI_succ k] at g
          exact g
def s_mcalmv (T J R M : Nat) (e : Nat → Nat) (w P : Nat → Nat → Nat) (F : Nat → Nat → Int32) (what : Int32) : Int32 := if 0 ≤ what ∧ what ≤ 1 then (if what = 0 then nI (s_mcalm (r_hS (F 0) T J R M e w P) T 1 (0, 0)).1 else (s_mcalm (r_hS (F 0) T J R M e w P) T 1 (0, 0)).2) else -1000000000 - 1
theorem kc_mcalm {Z : Nat → Int32} {F : Nat → Nat → Int32} {T J R : Nat} {e : Nat → Nat} {w P : Nat → Nat → Nat} (hTi : (F 0) 1 = nI T) (hT2 : T ≤ 200) (ok : ∀ s : Nat, 1 ≤ s → s ≤ T → r_ok (upd (F 0) 6 (nI s)) T J R e (w s) (P s)) {M : Nat} (hM : F 0 10 = nI M) (hM6 : M ≤ 6) (htx : r_txf1 (F 0)) (what : Int32) : px_PM 6 177 [.ref 1000, .int what] ([], px_MH Z F) (fun r h' => r = some (.int (s_mcalmv T J R M e w P F what)) ∧ ∃ Z' F', px_sm Z F Z' F' ∧ h' = ([], px_MH Z' F')) := by
  refine px_PM.start (nL := 7) (code := pc_177) rfl rfl ?_
  refine px_PW.steps kt_177.2 3 rfl ?_
  refine px_PW.callS kt_177.2 rfl rfl rfl (cm_117 _ _ _ _) (by decide) (fun v h1 q => ?_)
  obtain ⟨rfl, rfl⟩ := q
  refine px_PW.steps kt_177.2 1 rfl ?_
  refine px_PW.br (fun c0 => ?_) (fun c0 => ?_)
  · have c0 : 0 ≤ what ∧ what ≤ 1 := px_b1n (of_decide_eq_false (px_nt c0))
    refine px_PW.steps kt_177.2 3 rfl ?_
    refine px_PW.steps kt_177.2 1 rfl ?_
    refine px_PW.steps kt_177.2 7 rfl ?_
    refine px_PW.hp (h' := ([], px_MH (upd Z 5 (Z 5)) (va_up (va_up (va_up (va_up (va_up F 6 (F 6)) 7 (F 7)) 0 (upd (F 0) 6 (F 0 6))) 8 (F 8)) 9 (F 9)))) (by rw [zz_ui (F 0) 6, ← zz_can67]) ?_
    refine m_calm_loop (f := F 0) hTi hT2 ok hM hM6 htx (what := what) T 1 (0, 0) (F 6) (F 7) (F 8) (F 9) (Z 5) (F 0 6) none (by omega) (by omega) (by decide) (fun n6 g7 A B p x k9 o6 => ?_)
    refine px_PW.steps kt_177.2 4 rfl ?_
    refine mr_0 kt_177.2 rfl (n := 6) rfl (by decide) ?_
    first | rw [zz_uu, show upd (F 0) 6 (F 0 (Int32.toNatClampNeg 6)) = F 0 from zz_ui (F 0) 6] | rw [zz_uu, zz_ui]
    refine px_PW.steps kt_177.2 2 rfl ?_
    refine px_PW.br (fun c1 => ?_) (fun c1 => ?_)
    · have c1 : ¬ (what = 0) := of_decide_eq_false (px_nt c1)
      refine px_PW.steps kt_177.2 1 rfl ?_
      refine px_PW.ret kt_177.2 rfl rfl ?_
      have E : s_mcalmv T J R M e w P F what = (s_mcalm (r_hS (F 0) T J R M e w P) T 1 (0, 0)).2 := (if_pos c0).trans (if_neg c1)
      rw [E]
      exact ⟨rfl, _, _, zz_sm2, rfl⟩
    · have c1 : what = 0 := of_decide_eq_true (px_nf c1)
      refine px_PW.steps kt_177.2 2 rfl ?_
      refine px_PW.ret kt_177.2 rfl rfl ?_
      have E : s_mcalmv T J R M e w P F what = (nI (s_mcalm (r_hS (F 0) T J R M e w P) T 1 (0, 0)).1) := (if_pos c0).trans (if_pos c1)
      rw [E]
      exact ⟨rfl, _, _, zz_sm2, rfl⟩
  · have c0 : ¬ (0 ≤ what ∧ what ≤ 1) := px_b1z (of_decide_eq_true (px_nf c0))
    refine px_PW.steps kt_177.2 2 rfl ?_
    refine px_PW.callV kt_177.2 rfl rfl rfl rfl (mm_error 1 (by decide)) (by decide) (fun v h1 q => ?_)
    obtain ⟨rfl, rfl⟩ := q
    refine px_PW.ret kt_177.2 rfl rfl ?_
    have E : s_mcalmv T J R M e w P F what = (-1000000000 - 1) := if_neg c0
    rw [E]
    exact ⟨rfl, _, _, px_sm.err, rfl⟩
def r_all0 (F : Nat → Nat → Int32) (T J R : Nat) (e w P : Nat → Nat) : Int32 := c_fold (fun r => nI (r_cuts (F 0 1) (r_B (e r) (w r) T J) (P r))) (fun v o => v + o) R 0 0
def r_all1 (F : Nat → Nat → Int32) (T J R : Nat) (e w P : Nat → Nat) : Int32 := c_fold (fun r => r_nar (r_B (e r) (w r) T J) (P r)) (fun v o => if v ≤ o then v else o) R 0 9999
def r_all2 (F : Nat → Nat → Int32) (T J R : Nat) (e w P : Nat → Nat) : Int32 := c_fold (fun r => nI (r_halves (F 0 1) (r_B (e r) (w r) T J) (P r))) (fun v o => v + o) R 0 0
def r_all3 (F : Nat → Nat → Int32) (T J R : Nat) (e w P : Nat → Nat) : Int32 := c_fold (fun r => nI (P r)) (fun v o => v + o) R 0 0
def s_mtiles (F : Nat → Nat → Int32) (T J R : Nat) (e w P : Nat → Nat) : Int32 := ((((r_all3 F T J R e w P) - (r_all2 F T J R e w P)) + (((r_all2 F T J R e w P) + 1) / 2)) + (s_mt0 (F 0) (r_all0 F T J R e w P) (((r_all3 F T J R e w P) - (r_all2 F T J R e w P)) + (((r_all2 F T J R e w P) + 1) / 2)) ((F 0) 1)))
theorem mm_tiles {Z : Nat → Int32} {F : Nat → Nat → Int32} {T J R : Nat} {e w P : Nat → Nat} (ok : r_ok (F 0) T J R e w P) (htx0 : r_txf0 (F 0)) : px_PM 4 171 [.ref 1000] ([], px_MH Z F) (fun r h' => r = some (.int (s_mtiles F T J R e w P)) ∧ ∃ (n6 g7 A B : Nat → Int32) (p : Int32), h' = ([], px_MH (upd Z 5 p) (va_up (va_up (va_up (va_up (va_up F 6 n6) 7 g7) 0 (F 0)) 8 A) 9 B))) := by
  refine px_PM.start (nL := 4) (code := pc_171) rfl rfl ?_
  refine px_PW.steps kt_171.2 2 rfl ?_
  refine px_PW.hp (h' := ([], px_MH (upd Z 5 (Z 5)) (va_up (va_up (va_up F 0 (F 0)) 8 (F 8)) 9 (F 9)))) (by rw [← zz_can]) ?_
  refine px_PW.callV kt_171.2 rfl rfl rfl rfl (mm_all0 (f := F 0) ok) (by decide) (fun v h1 q => ?_)
  obtain ⟨rfl, A30, B30, p30, rfl⟩ := q
  refine px_PW.steps kt_171.2 3 rfl ?_
  refine px_PW.callV kt_171.2 rfl rfl rfl rfl (mm_all2 (f := F 0) ok) (by decide) (fun v h1 q => ?_)
  obtain ⟨rfl, A31, B31, p31, rfl⟩ := q
  refine px_PW.steps kt_171.2 3 rfl ?_
  refine px_PW.callV kt_171.2 rfl rfl rfl rfl (mm_all3 (f := F 0) ok) (by decide) (fun v h1 q => ?_)
  obtain ⟨rfl, A32, B32, p32, rfl⟩ := q
  refine px_PW.steps kt_171.2 16 rfl ?_
  refine px_PW.steps kt_171.2 1 rfl ?_
  refine px_PW.callV kt_171.2 rfl rfl rfl rfl (mm_told0 (F := (va_up (va_up (va_up F 0 (F 0)) 8 A32) 9 B32)) (show r_txf0 (F 0) from htx0) _ _ _) (by decide) (fun v h1 q => ?_)
  obtain ⟨rfl, n6, g7, rfl⟩ := q
  rw [zz_c67]
  refine px_PW.steps kt_171.2 1 rfl ?_
  refine px_PW.ret kt_171.2 rfl rfl ?_
  exact ⟨rfl, n6, g7, A32, B32, p32, rfl⟩
def s_mbuy (T J R M : Nat) (e w P : Nat → Nat) (F : Nat → Nat → Int32) (what : Int32) : Int32 := (if what = 0 then (s_mtiles F T J R e w P) else (if what = 1 then ((((s_mtiles F T J R e w P) + 40) - 1) / 40) else (if what = 2 then (r_all0 F T J R e w P) else (if what = 3 then (r_all1 F T J R e w P) else (if what = 4 then (r_all2 F T J R e w P) else (if what = 5 then (r_hall (F 0) T J M e w P R 0 0) else (-1000000000 - 1)))))))
theorem px_swd_172_1 {x : Int32} (c0 : ¬ (x = 0)) (c1 : ¬ (x = 1)) (c2 : ¬ (x = 2)) (c3 : ¬ (x = 3)) (c4 : ¬ (x = 4)) (c5 : ¬ (x = 5)) : px_sw 0 [40, 45, 58, 64, 70, 76] 81 x.toInt = 81 := by
  have d0 : ¬ (x.toInt = 0) := fun h => c0 (px_i_of h (by decide +kernel))
  have d1 : ¬ (x.toInt = 1) := fun h => c1 (px_i_of h (by decide +kernel))
  have d2 : ¬ (x.toInt = 2) := fun h => c2 (px_i_of h (by decide +kernel))
  have d3 : ¬ (x.toInt = 3) := fun h => c3 (px_i_of h (by decide +kernel))
  have d4 : ¬ (x.toInt = 4) := fun h => c4 (px_i_of h (by decide +kernel))
  have d5 : ¬ (x.toInt = 5) := fun h => c5 (px_i_of h (by decide +kernel))
  exact px_sw_d (fun y h1 h2 => by
    have h1 : (0 : Int) ≤ y := h1
    have h2 : y < 6 := h2
    rcases (show y = 0 ∨ y = 1 ∨ y = 2 ∨ y = 3 ∨ y = 4 ∨ y = 5 by omega) with rfl | rfl | rfl | rfl | rfl | rfl
    · exact Or.inl (fun h => d0 h)
    · exact Or.inl (fun h => d1 h)
    · exact Or.inl (fun h => d2 h)
    · exact Or.inl (fun h => d3 h)
    · exact Or.inl (fun h => d4 h)
    · exact Or.inl (fun h => d5 h))
theorem kc_mbuy {Z : Nat → Int32} {F : Nat → Nat → Int32} {T J R : Nat} {e w P : Nat → Nat} (ok : r_ok (F 0) T J R e w P) {M : Nat} (hM : F 0 10 = nI M) (hM6 : M ≤ 6) (htx : r_txf1 (F 0)) (htx0 : r_txf0 (F 0)) (what : Int32) : px_PM 6 172 [.ref 1000, .int what] ([], px_MH Z F) (fun r h' => r = some (.int (s_mbuy T J R M e w P F what)) ∧ ∃ Z' F', px_sm Z F Z' F' ∧ h' = ([], px_MH Z' F')) := by
  refine px_PM.start (nL := 2) (code := pc_172) rfl rfl ?_
  refine px_PW.steps kt_172.2 2 rfl ?_
  by_cases c0 : what = 0
  · refine px_PW.at (pc' := 40) (show px_sw 0 [40, 45, 58, 64, 70, 76] 81 (what : Int32).toInt = 40 by rw [c0]; rfl) ?_
    refine px_PW.steps kt_172.2 1 rfl ?_
    refine px_PW.callV kt_172.2 rfl rfl rfl rfl (mm_tiles ok htx0) (by decide) (fun v h1 q => ?_)
    obtain ⟨rfl, n40, g40, A40, B40, p40, rfl⟩ := q
    refine px_PW.ret kt_172.2 rfl rfl ?_
    have E : s_mbuy T J R M e w P F what = (s_mtiles F T J R e w P) := if_pos c0
    rw [E]
    exact ⟨rfl, _, _, zz_sm2, rfl⟩
  · skip
    by_cases c1 : what = 1
    · refine px_PW.at (pc' := 45) (show px_sw 0 [40, 45, 58, 64, 70, 76] 81 (what : Int32).toInt = 45 by rw [c1]; rfl) ?_
      refine px_PW.steps kt_172.2 1 rfl ?_
      refine px_PW.callV kt_172.2 rfl rfl rfl rfl (mm_tiles ok htx0) (by decide) (fun v h1 q => ?_)
      obtain ⟨rfl, n40, g40, A40, B40, p40, rfl⟩ := q
      refine px_PW.steps kt_172.2 6 rfl ?_
      refine px_PW.ret kt_172.2 rfl rfl ?_
      have E : s_mbuy T J R M e w P F what = ((((s_mtiles F T J R e w P) + 40) - 1) / 40) := (if_neg c0).trans (if_pos c1)
      rw [E]
      exact ⟨rfl, _, _, zz_sm2, rfl⟩
    · skip
      by_cases c2 : what = 2
      · refine px_PW.at (pc' := 58) (show px_sw 0 [40, 45, 58, 64, 70, 76] 81 (what : Int32).toInt = 58 by rw [c2]; rfl) ?_
        refine px_PW.steps kt_172.2 2 rfl ?_
        refine px_PW.hp (h' := ([], px_MH (upd Z 5 (Z 5)) (va_up (va_up (va_up F 0 (F 0)) 8 (F 8)) 9 (F 9)))) (by rw [← zz_can]) ?_
        refine px_PW.callV kt_172.2 rfl rfl rfl rfl (mm_all0 (f := F 0) ok) (by decide) (fun v h1 q => ?_)
        obtain ⟨rfl, A30, B30, p30, rfl⟩ := q
        refine px_PW.ret kt_172.2 rfl rfl ?_
        have E : s_mbuy T J R M e w P F what = (r_all0 F T J R e w P) := (if_neg c0).trans ((if_neg c1).trans (if_pos c2))
        rw [E]
        exact ⟨rfl, _, _, zz_sm, rfl⟩
      · skip
        by_cases c3 : what = 3
        · refine px_PW.at (pc' := 64) (show px_sw 0 [40, 45, 58, 64, 70, 76] 81 (what : Int32).toInt = 64 by rw [c3]; rfl) ?_
          refine px_PW.steps kt_172.2 2 rfl ?_
          refine px_PW.hp (h' := ([], px_MH (upd Z 5 (Z 5)) (va_up (va_up (va_up F 0 (F 0)) 8 (F 8)) 9 (F 9)))) (by rw [← zz_can]) ?_
          refine px_PW.callV kt_172.2 rfl rfl rfl rfl (mm_all1 (f := F 0) ok) (by decide) (fun v h1 q => ?_)
          obtain ⟨rfl, A30, B30, p30, rfl⟩ := q
          refine px_PW.ret kt_172.2 rfl rfl ?_
          have E : s_mbuy T J R M e w P F what = (r_all1 F T J R e w P) := (if_neg c0).trans ((if_neg c1).trans ((if_neg c2).trans (if_pos c3)))
          rw [E]
          exact ⟨rfl, _, _, zz_sm, rfl⟩
        · skip
          by_cases c4 : what = 4
          · refine px_PW.at (pc' := 70) (show px_sw 0 [40, 45, 58, 64, 70, 76] 81 (what : Int32).toInt = 70 by rw [c4]; rfl) ?_
            refine px_PW.steps kt_172.2 2 rfl ?_
            refine px_PW.hp (h' := ([], px_MH (upd Z 5 (Z 5)) (va_up (va_up (va_up F 0 (F 0)) 8 (F 8)) 9 (F 9)))) (by rw [← zz_can]) ?_
            refine px_PW.callV kt_172.2 rfl rfl rfl rfl (mm_all2 (f := F 0) ok) (by decide) (fun v h1 q => ?_)
            obtain ⟨rfl, A30, B30, p30, rfl⟩ := q
            refine px_PW.ret kt_172.2 rfl rfl ?_
            have E : s_mbuy T J R M e w P F what = (r_all2 F T J R e w P) := (if_neg c0).trans ((if_neg c1).trans ((if_neg c2).trans ((if_neg c3).trans (if_pos c4))))
            rw [E]
            exact ⟨rfl, _, _, zz_sm, rfl⟩
          · skip
            by_cases c5 : what = 5
            · refine px_PW.at (pc' := 76) (show px_sw 0 [40, 45, 58, 64, 70, 76] 81 (what : Int32).toInt = 76 by rw [c5]; rfl) ?_
              refine px_PW.steps kt_172.2 1 rfl ?_
              refine px_PW.hp (h' := ([], px_MH (upd Z 5 (Z 5)) (va_up (va_up (va_up (va_up (va_up F 6 (F 6)) 7 (F 7)) 0 (F 0)) 8 (F 8)) 9 (F 9)))) (by rw [← zz_can67]) ?_
              refine px_PW.callV kt_172.2 rfl rfl rfl rfl (mm_ha (F := F) (f := F 0) ok hM hM6 htx) (by decide) (fun v h1 q => ?_)
              obtain ⟨rfl, n41, g41, A41, B41, p41, rfl⟩ := q
              refine px_PW.ret kt_172.2 rfl rfl ?_
              have E : s_mbuy T J R M e w P F what = (r_hall (F 0) T J M e w P R 0 0) := (if_neg c0).trans ((if_neg c1).trans ((if_neg c2).trans ((if_neg c3).trans ((if_neg c4).trans (if_pos c5)))))
              rw [E]
              exact ⟨rfl, _, _, zz_sm2, rfl⟩
            · skip
              refine px_PW.at (px_swd_172_1 c0 c1 c2 c3 c4 c5) ?_
              refine px_PW.steps kt_172.2 2 rfl ?_
              refine px_PW.callV kt_172.2 rfl rfl rfl rfl (mm_error 1 (by decide)) (by decide) (fun v h1 q => ?_)
              obtain ⟨rfl, rfl⟩ := q
              refine px_PW.ret kt_172.2 rfl rfl ?_
              have E : s_mbuy T J R M e w P F what = (-1000000000 - 1) := (if_neg c0).trans ((if_neg c1).trans ((if_neg c2).trans ((if_neg c3).trans ((if_neg c4).trans (if_neg c5)))))
              rw [E]
              exact ⟨rfl, _, _, px_sm.err, rfl⟩
def s_mseen (T J : Nat) (e w P : Nat → Nat) (F : Nat → Nat → Int32) (thing row what : Int32) : Int32 := (if 0 ≤ thing ∧ thing ≤ F 0 10 - 1 then (if 0 ≤ row ∧ row ≤ F 0 4 - 1 then (if 0 ≤ what ∧ what ≤ 4 then (if what = 0 then (r_jo (r_A (w row.toNatClampNeg) T J) (r_B (e row.toNatClampNeg) (w row.toNatClampNeg) T J) (P row.toNatClampNeg) (F 0 (12 + 4 * thing.toNatClampNeg + 2)) ((F 0 (12 + 4 * thing.toNatClampNeg + 2)) + (F 0 (12 + 4 * thing.toNatClampNeg + 3)))) else (if what = 1 then (r_ga (r_A (w row.toNatClampNeg) T J) (r_B (e row.toNatClampNeg) (w row.toNatClampNeg) T J) (P row.toNatClampNeg) (F 0 (12 + 4 * thing.toNatClampNeg + 2)) ((F 0 (12 + 4 * thing.toNatClampNeg + 2)) + (F 0 (12 + 4 * thing.toNatClampNeg + 3)))) else (if what = 2 then (r_to (r_A (w row.toNatClampNeg) T J) (r_B (e row.toNatClampNeg) (w row.toNatClampNeg) T J) (P row.toNatClampNeg) (F 0 (12 + 4 * thing.toNatClampNeg + 2)) ((F 0 (12 + 4 * thing.toNatClampNeg + 2)) + (F 0 (12 + 4 * thing.toNatClampNeg + 3)))) else (if what = 3 then (r_hi (F 0 1) (r_A (w row.toNatClampNeg) T J) (r_B (e row.toNatClampNeg) (w row.toNatClampNeg) T J) (P row.toNatClampNeg) (F 0 (12 + 4 * thing.toNatClampNeg + 2)) ((F 0 (12 + 4 * thing.toNatClampNeg + 2)) + (F 0 (12 + 4 * thing.toNatClampNeg + 3)))) else (s_mt1 (F 0) (s_mhs (F 0) (r_A (w row.toNatClampNeg) T J) (r_B (e row.toNatClampNeg) (w row.toNatClampNeg) T J) (P row.toNatClampNeg) thing.toNatClampNeg) thing (F 0 (12 + 4 * thing.toNatClampNeg + 0))))))) else (-1000000000 - 1)) else (-1000000000 - 1)) else (-1000000000 - 1))
theorem px_swd_170_56 {x : Int32} (c0 : ¬ (x = 0)) (c1 : ¬ (x = 1)) (c2 : ¬ (x = 2)) (c3 : ¬ (x = 3)) : px_sw 0 [88, 97, 106, 115] 124 x.toInt = 124 := by
  have d0 : ¬ (x.toInt = 0) := fun h => c0 (px_i_of h (by decide +kernel))
  have d1 : ¬ (x.toInt = 1) := fun h => c1 (px_i_of h (by decide +kernel))
  have d2 : ¬ (x.toInt = 2) := fun h => c2 (px_i_of h (by decide +kernel))
  have d3 : ¬ (x.toInt = 3) := fun h => c3 (px_i_of h (by decide +kernel))
  exact px_sw_d (fun y h1 h2 => by
    have h1 : (0 : Int) ≤ y := h1
    have h2 : y < 4 := h2
    rcases (show y = 0 ∨ y = 1 ∨ y = 2 ∨ y = 3 by omega) with rfl | rfl | rfl | rfl
    · exact Or.inl (fun h => d0 h)
    · exact Or.inl (fun h => d1 h)
    · exact Or.inl (fun h => d2 h)
    · exact Or.inl (fun h => d3 h))
theorem kc_mseen {Z : Nat → Int32} {F : Nat → Nat → Int32} {T J R : Nat} {e w P : Nat → Nat} (ok : r_ok (F 0) T J R e w P) {M : Nat} (hM : F 0 10 = nI M) (hM6 : M ≤ 6) (htx : r_txf1 (F 0)) (thing row what : Int32) : px_PM 5 170 [.ref 1000, .int thing, .int row, .int what] ([], px_MH Z F) (fun r h' => r = some (.int (s_mseen T J e w P F thing row what)) ∧ ∃ Z' F', px_sm Z F Z' F' ∧ h' = ([], px_MH Z' F')) := by
  refine px_PM.start (nL := 6) (code := pc_170) rfl rfl ?_
  refine px_PW.steps kt_170.2 2 rfl ?_
  refine px_PW.callV kt_170.2 rfl rfl rfl rfl (mm_isThing _) (by decide) (fun v h1 q => ?_)
  obtain ⟨rfl, rfl⟩ := q
  refine px_PW.steps kt_170.2 1 rfl ?_
  refine px_PW.br (fun c0 => ?_) (fun c0 => ?_)
  · have c0 : ¬ (0 ≤ thing ∧ thing ≤ F 0 10 - 1) := px_b1z (of_decide_eq_true c0)
    refine px_PW.steps kt_170.2 2 rfl ?_
    refine px_PW.callV kt_170.2 rfl rfl rfl rfl (mm_error 1 (by decide)) (by decide) (fun v h1 q => ?_)
    obtain ⟨rfl, rfl⟩ := q
    refine px_PW.ret kt_170.2 rfl rfl ?_
    have E : s_mseen T J e w P F thing row what = (-1000000000 - 1) := if_neg c0
    rw [E]
    exact ⟨rfl, _, _, px_sm.err, rfl⟩
  · have c0 : 0 ≤ thing ∧ thing ≤ F 0 10 - 1 := px_b1n (of_decide_eq_false c0)
    refine px_PW.steps kt_170.2 2 rfl ?_
    refine px_PW.callV kt_170.2 rfl rfl rfl rfl (mm_isRow _) (by decide) (fun v h1 q => ?_)
    obtain ⟨rfl, rfl⟩ := q
    refine px_PW.steps kt_170.2 1 rfl ?_
    refine px_PW.br (fun c1 => ?_) (fun c1 => ?_)
    · have c1 : ¬ (0 ≤ row ∧ row ≤ F 0 4 - 1) := px_b1z (of_decide_eq_true c1)
      refine px_PW.steps kt_170.2 2 rfl ?_
      refine px_PW.callV kt_170.2 rfl rfl rfl rfl (mm_error 1 (by decide)) (by decide) (fun v h1 q => ?_)
      obtain ⟨rfl, rfl⟩ := q
      refine px_PW.ret kt_170.2 rfl rfl ?_
      have E : s_mseen T J e w P F thing row what = (-1000000000 - 1) := (if_pos c0).trans (if_neg c1)
      rw [E]
      exact ⟨rfl, _, _, px_sm.err, rfl⟩
    · have c1 : 0 ≤ row ∧ row ≤ F 0 4 - 1 := px_b1n (of_decide_eq_false c1)
      refine px_PW.steps kt_170.2 3 rfl ?_
      refine px_PW.callS kt_170.2 rfl rfl rfl (cm_117 _ _ _ _) (by decide) (fun v h1 q => ?_)
      obtain ⟨rfl, rfl⟩ := q
      refine px_PW.steps kt_170.2 1 rfl ?_
      refine px_PW.br (fun c2 => ?_) (fun c2 => ?_)
      · have c2 : 0 ≤ what ∧ what ≤ 4 := px_b1n (of_decide_eq_false (px_nt c2))
        refine px_PW.steps kt_170.2 2 rfl ?_
        refine px_PW.hp (h' := ([], px_MH (upd Z 5 (Z 5)) (va_up (va_up (va_up F 0 (F 0)) 8 (F 8)) 9 (F 9)))) (by rw [← zz_can]) ?_
        refine px_PW.callV kt_170.2 rfl rfl rfl rfl (mm_layE (f := F 0) (px_rowN ok.2.2.1 ok.2.2.2.2.2.1 c1).1 ok.1 ok.2.1 ok.2.2.2.1 ok.2.2.2.2.1 (ok.2.2.2.2.2.2 _ (px_rowN ok.2.2.1 ok.2.2.2.2.2.1 c1).2)) (by decide) (fun v h1 q => ?_)
        obtain ⟨rfl, A9, B9, hAB, rfl⟩ := q
        have hrow := ok.2.2.2.2.2.2 _ (px_rowN ok.2.2.1 ok.2.2.2.2.2.1 c1).2
        have hP := hrow.2.2.2.2.1
        have hP0 := hrow.2.2.2.2.2.1
        refine px_PW.steps kt_170.2 3 rfl ?_
        refine px_PW.callV kt_170.2 rfl rfl rfl rfl (mm_its (n := thing.toNatClampNeg) (k := 2) (px_thN hM hM6 c0).1 rfl (px_thN hM hM6 c0).2.2 (by decide)) (by decide) (fun v h1 q => ?_)
        obtain ⟨rfl, rfl⟩ := q
        refine px_PW.steps kt_170.2 5 rfl ?_
        refine px_PW.callV kt_170.2 rfl rfl rfl rfl (mm_its (n := thing.toNatClampNeg) (k := 3) (px_thN hM hM6 c0).1 rfl (px_thN hM hM6 c0).2.2 (by decide)) (by decide) (fun v h1 q => ?_)
        obtain ⟨rfl, rfl⟩ := q
        refine px_PW.steps kt_170.2 4 rfl ?_
        by_cases c3 : what = 0
        · refine px_PW.at (pc' := 88) (show px_sw 0 [88, 97, 106, 115] 124 (what : Int32).toInt = 88 by rw [c3]; rfl) ?_
          refine px_PW.steps kt_170.2 3 rfl ?_
          refine px_PW.callV kt_170.2 rfl rfl rfl rfl (mm_joints (f := F 0) hP hAB _ _) (by decide) (fun v h1 q => ?_)
          obtain ⟨rfl, rfl⟩ := q
          refine px_PW.ret kt_170.2 rfl rfl ?_
          have E : s_mseen T J e w P F thing row what = (r_jo (r_A (w row.toNatClampNeg) T J) (r_B (e row.toNatClampNeg) (w row.toNatClampNeg) T J) (P row.toNatClampNeg) (F 0 (12 + 4 * thing.toNatClampNeg + 2)) ((F 0 (12 + 4 * thing.toNatClampNeg + 2)) + (F 0 (12 + 4 * thing.toNatClampNeg + 3)))) := (if_pos c0).trans ((if_pos c1).trans ((if_pos c2).trans (if_pos c3)))
          rw [E]
          exact ⟨rfl, _, _, zz_sm, rfl⟩
        · skip
          by_cases c4 : what = 1
          · refine px_PW.at (pc' := 97) (show px_sw 0 [88, 97, 106, 115] 124 (what : Int32).toInt = 97 by rw [c4]; rfl) ?_
            refine px_PW.steps kt_170.2 3 rfl ?_
            refine px_PW.callV kt_170.2 rfl rfl rfl rfl (mm_gap (f := F 0) hP hAB hP0 _ _) (by decide) (fun v h1 q => ?_)
            obtain ⟨rfl, rfl⟩ := q
            refine px_PW.ret kt_170.2 rfl rfl ?_
            have E : s_mseen T J e w P F thing row what = (r_ga (r_A (w row.toNatClampNeg) T J) (r_B (e row.toNatClampNeg) (w row.toNatClampNeg) T J) (P row.toNatClampNeg) (F 0 (12 + 4 * thing.toNatClampNeg + 2)) ((F 0 (12 + 4 * thing.toNatClampNeg + 2)) + (F 0 (12 + 4 * thing.toNatClampNeg + 3)))) := (if_pos c0).trans ((if_pos c1).trans ((if_pos c2).trans ((if_neg c3).trans (if_pos c4))))
            rw [E]
            exact ⟨rfl, _, _, zz_sm, rfl⟩
          · skip
            by_cases c5 : what = 2
            · refine px_PW.at (pc' := 106) (show px_sw 0 [88, 97, 106, 115] 124 (what : Int32).toInt = 106 by rw [c5]; rfl) ?_
              refine px_PW.steps kt_170.2 3 rfl ?_
              refine px_PW.callV kt_170.2 rfl rfl rfl rfl (mm_touches (f := F 0) hP hAB _ _) (by decide) (fun v h1 q => ?_)
              obtain ⟨rfl, rfl⟩ := q
              refine px_PW.ret kt_170.2 rfl rfl ?_
              have E : s_mseen T J e w P F thing row what = (r_to (r_A (w row.toNatClampNeg) T J) (r_B (e row.toNatClampNeg) (w row.toNatClampNeg) T J) (P row.toNatClampNeg) (F 0 (12 + 4 * thing.toNatClampNeg + 2)) ((F 0 (12 + 4 * thing.toNatClampNeg + 2)) + (F 0 (12 + 4 * thing.toNatClampNeg + 3)))) := (if_pos c0).trans ((if_pos c1).trans ((if_pos c2).trans ((if_neg c3).trans ((if_neg c4).trans (if_pos c5)))))
              rw [E]
              exact ⟨rfl, _, _, zz_sm, rfl⟩
            · skip
              by_cases c6 : what = 3
              · refine px_PW.at (pc' := 115) (show px_sw 0 [88, 97, 106, 115] 124 (what : Int32).toInt = 115 by rw [c6]; rfl) ?_
                refine px_PW.steps kt_170.2 3 rfl ?_
                refine px_PW.callV kt_170.2 rfl rfl rfl rfl (mm_hides (f := F 0) hP hAB _ _) (by decide) (fun v h1 q => ?_)
                obtain ⟨rfl, rfl⟩ := q
                refine px_PW.ret kt_170.2 rfl rfl ?_
                have E : s_mseen T J e w P F thing row what = (r_hi (F 0 1) (r_A (w row.toNatClampNeg) T J) (r_B (e row.toNatClampNeg) (w row.toNatClampNeg) T J) (P row.toNatClampNeg) (F 0 (12 + 4 * thing.toNatClampNeg + 2)) ((F 0 (12 + 4 * thing.toNatClampNeg + 2)) + (F 0 (12 + 4 * thing.toNatClampNeg + 3)))) := (if_pos c0).trans ((if_pos c1).trans ((if_pos c2).trans ((if_neg c3).trans ((if_neg c4).trans ((if_neg c5).trans (if_pos c6))))))
                rw [E]
                exact ⟨rfl, _, _, zz_sm, rfl⟩
              · skip
                refine px_PW.at (px_swd_170_56 c3 c4 c5 c6) ?_
                refine px_PW.steps kt_170.2 2 rfl ?_
                refine px_PW.callV kt_170.2 rfl rfl rfl rfl (mm_harmOn (f := F 0) hP hP0 hAB (n := thing.toNatClampNeg) (px_thN hM hM6 c0).1 (px_thN hM hM6 c0).2.2 htx) (by decide) (fun v h1 q => ?_)
                obtain ⟨rfl, n61, g71, rfl⟩ := q
                refine px_PW.ret kt_170.2 rfl rfl ?_
                have E : s_mseen T J e w P F thing row what = (s_mt1 (F 0) (s_mhs (F 0) (r_A (w row.toNatClampNeg) T J) (r_B (e row.toNatClampNeg) (w row.toNatClampNeg) T J) (P row.toNatClampNeg) thing.toNatClampNeg) thing (F 0 (12 + 4 * thing.toNatClampNeg + 0))) := (if_pos c0).trans ((if_pos c1).trans ((if_pos c2).trans ((if_neg c3).trans ((if_neg c4).trans ((if_neg c5).trans (if_neg c6))))))
                rw [E]
                exact ⟨rfl, _, _, zz_sm2, rfl⟩
      · have c2 : ¬ (0 ≤ what ∧ what ≤ 4) := px_b1z (of_decide_eq_true (px_nf c2))
        refine px_PW.steps kt_170.2 2 rfl ?_
        refine px_PW.callV kt_170.2 rfl rfl rfl rfl (mm_error 1 (by decide)) (by decide) (fun v h1 q => ?_)
        obtain ⟨rfl, rfl⟩ := q
        refine px_PW.ret kt_170.2 rfl rfl ?_
        have E : s_mseen T J e w P F thing row what = (-1000000000 - 1) := (if_pos c0).trans ((if_pos c1).trans (if_neg c2))
        rw [E]
        exact ⟨rfl, _, _, px_sm.err, rfl⟩
end
