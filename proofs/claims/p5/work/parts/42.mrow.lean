theorem zz_n8 {α : Type} (G : Nat → α) (a b c : α) : va_up (va_up (va_up G 8 a) 9 b) 8 c = va_up (va_up G 8 c) 9 b := by
  funext j
  unfold va_up
  by_cases h : j = 8
  · subst h; rw [if_pos rfl, if_neg (by decide), if_pos rfl]
  · rw [if_neg h]
    by_cases h9 : j = 9
    · rw [if_pos h9, if_pos h9]
    · rw [if_neg h9, if_neg h9, if_neg h, if_neg h]
theorem zz_n0 {α : Type} (G : Nat → α) (f a b c : α) : va_up (va_up (va_up (va_up G 0 f) 8 a) 9 b) 0 c = va_up (va_up (va_up G 0 c) 8 a) 9 b := by
  funext j
  unfold va_up
  by_cases h : j = 0
  · subst h; rw [if_pos rfl, if_neg (by decide), if_neg (by decide), if_pos rfl]
  · rw [if_neg h]
    by_cases h9 : j = 9
    · rw [if_pos h9, if_pos h9]
    · rw [if_neg h9, if_neg h9]
      by_cases h8 : j = 8
      · rw [if_pos h8, if_pos h8]
      · rw [if_neg h8, if_neg h8, if_neg h, if_neg h]
theorem mr_8 {d : Nat} {code : Nat → Option px_A} (hT : px_frT code) {Q : Option Value → px_H → Prop} {pc n : Nat} {i x : Int32} {lv : px_L} {r : List Value} {Z f A B : Nat → Int32} {F : Nat → Nat → Int32} {p : Int32} (hc : code pc = some px_iast) (hi : i = nI n) (hn : n < 100) (kk : px_PW d code Q (pc + 1) lv r ([], px_MH (upd Z 5 p) (va_up (va_up (va_up F 0 f) 8 (upd A n x)) 9 B))) : px_PW d code Q pc lv (.int x :: .int i :: .ref 1009 :: r) ([], px_MH (upd Z 5 p) (va_up (va_up (va_up F 0 f) 8 A) 9 B)) := by
  refine ms_8 hT hc hi hn ?_
  rw [zz_n8]
  exact kk
theorem mr_9 {d : Nat} {code : Nat → Option px_A} (hT : px_frT code) {Q : Option Value → px_H → Prop} {pc n : Nat} {i x : Int32} {lv : px_L} {r : List Value} {Z f A B : Nat → Int32} {F : Nat → Nat → Int32} {p : Int32} (hc : code pc = some px_iast) (hi : i = nI n) (hn : n < 100) (kk : px_PW d code Q (pc + 1) lv r ([], px_MH (upd Z 5 p) (va_up (va_up (va_up F 0 f) 8 A) 9 (upd B n x)))) : px_PW d code Q pc lv (.int x :: .int i :: .ref 1010 :: r) ([], px_MH (upd Z 5 p) (va_up (va_up (va_up F 0 f) 8 A) 9 B)) := by
  refine ms_9 hT hc hi hn ?_
  rw [px_up_up]
  exact kk
theorem mr_0 {d : Nat} {code : Nat → Option px_A} (hT : px_frT code) {Q : Option Value → px_H → Prop} {pc n : Nat} {i x : Int32} {lv : px_L} {r : List Value} {Z f A B : Nat → Int32} {F : Nat → Nat → Int32} {p : Int32} (hc : code pc = some px_iast) (hi : i = nI n) (hn : n < 370) (kk : px_PW d code Q (pc + 1) lv r ([], px_MH (upd Z 5 p) (va_up (va_up (va_up F 0 (upd f n x)) 8 A) 9 B))) : px_PW d code Q pc lv (.int x :: .int i :: .ref 1001 :: r) ([], px_MH (upd Z 5 p) (va_up (va_up (va_up F 0 f) 8 A) 9 B)) := by
  refine ms_0 hT hc hi hn ?_
  rw [zz_n0]
  exact kk
theorem mr_5 {d : Nat} {code : Nat → Option px_A} (hT : px_frT code) {Q : Option Value → px_H → Prop} {pc : Nat} {x : Int32} {lv : px_L} {r : List Value} {Z f A B : Nat → Int32} {F : Nat → Nat → Int32} {p : Int32} (hc : code pc = some (px_putf true 8 15)) (kk : px_PW d code Q (pc + 3) lv r ([], px_MH (upd Z 5 x) (va_up (va_up (va_up F 0 f) 8 A) 9 B))) : px_PW d code Q pc lv (.int x :: .ref 1000 :: r) ([], px_MH (upd Z 5 p) (va_up (va_up (va_up F 0 f) 8 A) 9 B)) := by
  refine mo_5 hT hc ?_
  rw [zz_uu]
  exact kk
def s_mlen (f : Nat → Int32) (r : Int32) : Int32 := (if 100 ≤ ((f 0) + (r * (f 3))) then ((f 0) + (r * (f 3))) else 100)
theorem mm_mlen {Z f A B : Nat → Int32} {F : Nat → Nat → Int32} {p : Int32} (r : Int32) : px_PM 1 141 [.ref 1000, .int r] ([], px_MH (upd Z 5 p) (va_up (va_up (va_up F 0 f) 8 A) 9 B)) (fun r2 h' => r2 = some (.int (s_mlen f r)) ∧ h' = ([], px_MH (upd Z 5 p) (va_up (va_up (va_up F 0 f) 8 A) 9 B))) := by
  refine px_PM.start (nL := 3) (code := pc_141) rfl rfl ?_
  refine px_PW.steps kt_141.2 3 rfl ?_
  refine px_PW.steps kt_141.2 1 rfl ?_
  refine px_PW.steps kt_141.2 4 rfl ?_
  refine px_PW.steps kt_141.2 1 rfl ?_
  refine px_PW.steps kt_141.2 6 rfl ?_
  refine px_PW.br (fun c0 => ?_) (fun c0 => ?_)
  · have c0 : 100 ≤ ((f 0) + (r * (f 3))) := of_decide_eq_true c0
    refine px_PW.steps kt_141.2 1 rfl ?_
    refine px_PW.ret kt_141.2 rfl rfl ?_
    exact ⟨congrArg (fun z => some (Value.int z)) (show s_mlen f r = ((f 0) + (r * (f 3))) from if_pos c0).symm, rfl⟩
  · have c0 : ¬ (100 ≤ ((f 0) + (r * (f 3)))) := of_decide_eq_false c0
    refine px_PW.steps kt_141.2 2 rfl ?_
    refine px_PW.ret kt_141.2 rfl rfl ?_
    exact ⟨congrArg (fun z => some (Value.int z)) (show s_mlen f r = 100 from if_neg c0).symm, rfl⟩
def s_mfst (f : Nat → Int32) (r : Int32) : Int32 := (if (f 5) = 1 then (if (r - r / 2 * 2) = 1 then (if ((f 6) + ((f 1) / 2)) ≤ (f 1) then ((f 6) + ((f 1) / 2)) else (((f 6) + ((f 1) / 2)) - (f 1))) else (if (f 6) ≤ (f 1) then (f 6) else ((f 6) - (f 1)))) else (if (f 6) ≤ (f 1) then (f 6) else ((f 6) - (f 1))))
theorem mm_mfst {Z f A B : Nat → Int32} {F : Nat → Nat → Int32} {p : Int32} (r : Int32) : px_PM 1 142 [.ref 1000, .int r] ([], px_MH (upd Z 5 p) (va_up (va_up (va_up F 0 f) 8 A) 9 B)) (fun r2 h' => r2 = some (.int (s_mfst f r)) ∧ h' = ([], px_MH (upd Z 5 p) (va_up (va_up (va_up F 0 f) 8 A) 9 B))) := by
  refine px_PM.start (nL := 3) (code := pc_142) rfl rfl ?_
  refine px_PW.steps kt_142.2 3 rfl ?_
  refine px_PW.steps kt_142.2 1 rfl ?_
  refine px_PW.steps kt_142.2 2 rfl ?_
  refine px_PW.br (fun c0 => ?_) (fun c0 => ?_)
  · have c0 : ¬ ((f 5) = 1) := of_decide_eq_false (px_nt c0)
    refine px_PW.steps kt_142.2 3 rfl ?_
    refine px_PW.steps kt_142.2 1 rfl ?_
    refine px_PW.steps kt_142.2 5 rfl ?_
    refine px_PW.steps kt_142.2 1 rfl ?_
    refine px_PW.steps kt_142.2 1 rfl ?_
    refine px_PW.br (fun c1 => ?_) (fun c1 => ?_)
    · have c1 : (f 6) ≤ (f 1) := of_decide_eq_true c1
      refine px_PW.steps kt_142.2 1 rfl ?_
      refine px_PW.ret kt_142.2 rfl rfl ?_
      exact ⟨congrArg (fun z => some (Value.int z)) (show s_mfst f r = (f 6) from (if_neg c0).trans (if_pos c1)).symm, rfl⟩
    · have c1 : ¬ ((f 6) ≤ (f 1)) := of_decide_eq_false c1
      refine px_PW.steps kt_142.2 4 rfl ?_
      refine px_PW.steps kt_142.2 1 rfl ?_
      refine px_PW.steps kt_142.2 2 rfl ?_
      refine px_PW.ret kt_142.2 rfl rfl ?_
      exact ⟨congrArg (fun z => some (Value.int z)) (show s_mfst f r = ((f 6) - (f 1)) from (if_neg c0).trans (if_neg c1)).symm, rfl⟩
  · have c0 : (f 5) = 1 := of_decide_eq_true (px_nf c0)
    refine px_PW.steps kt_142.2 5 rfl ?_
    refine px_PW.br (fun c2 => ?_) (fun c2 => ?_)
    · have c2 : ¬ ((r - r / 2 * 2) = 1) := of_decide_eq_false (px_nt c2)
      refine px_PW.steps kt_142.2 3 rfl ?_
      refine px_PW.steps kt_142.2 1 rfl ?_
      refine px_PW.steps kt_142.2 5 rfl ?_
      refine px_PW.steps kt_142.2 1 rfl ?_
      refine px_PW.steps kt_142.2 1 rfl ?_
      refine px_PW.br (fun c3 => ?_) (fun c3 => ?_)
      · have c3 : (f 6) ≤ (f 1) := of_decide_eq_true c3
        refine px_PW.steps kt_142.2 1 rfl ?_
        refine px_PW.ret kt_142.2 rfl rfl ?_
        exact ⟨congrArg (fun z => some (Value.int z)) (show s_mfst f r = (f 6) from (if_pos c0).trans ((if_neg c2).trans (if_pos c3))).symm, rfl⟩
      · have c3 : ¬ ((f 6) ≤ (f 1)) := of_decide_eq_false c3
        refine px_PW.steps kt_142.2 4 rfl ?_
        refine px_PW.steps kt_142.2 1 rfl ?_
        refine px_PW.steps kt_142.2 2 rfl ?_
        refine px_PW.ret kt_142.2 rfl rfl ?_
        exact ⟨congrArg (fun z => some (Value.int z)) (show s_mfst f r = ((f 6) - (f 1)) from (if_pos c0).trans ((if_neg c2).trans (if_neg c3))).symm, rfl⟩
    · have c2 : (r - r / 2 * 2) = 1 := of_decide_eq_true (px_nf c2)
      refine px_PW.steps kt_142.2 3 rfl ?_
      refine px_PW.steps kt_142.2 1 rfl ?_
      refine px_PW.steps kt_142.2 3 rfl ?_
      refine px_PW.steps kt_142.2 1 rfl ?_
      refine px_PW.steps kt_142.2 9 rfl ?_
      refine px_PW.steps kt_142.2 1 rfl ?_
      refine px_PW.steps kt_142.2 1 rfl ?_
      refine px_PW.br (fun c4 => ?_) (fun c4 => ?_)
      · have c4 : ((f 6) + ((f 1) / 2)) ≤ (f 1) := of_decide_eq_true c4
        refine px_PW.steps kt_142.2 1 rfl ?_
        refine px_PW.ret kt_142.2 rfl rfl ?_
        exact ⟨congrArg (fun z => some (Value.int z)) (show s_mfst f r = ((f 6) + ((f 1) / 2)) from (if_pos c0).trans ((if_pos c2).trans (if_pos c4))).symm, rfl⟩
      · have c4 : ¬ (((f 6) + ((f 1) / 2)) ≤ (f 1)) := of_decide_eq_false c4
        refine px_PW.steps kt_142.2 4 rfl ?_
        refine px_PW.steps kt_142.2 1 rfl ?_
        refine px_PW.steps kt_142.2 2 rfl ?_
        refine px_PW.ret kt_142.2 rfl rfl ?_
        exact ⟨congrArg (fun z => some (Value.int z)) (show s_mfst f r = (((f 6) + ((f 1) / 2)) - (f 1)) from (if_pos c0).trans ((if_pos c2).trans (if_neg c4))).symm, rfl⟩
def r_wd (w T : Nat) (k : Nat) : Nat := if k = 0 then w else T
def r_beg (w T J : Nat) : Nat → Nat
  | 0 => 0
  | k + 1 => r_beg w T J k + (r_wd w T k + J)
def r_wid (e w T J k : Nat) : Nat := if r_beg w T J k + r_wd w T k ≤ e then r_wd w T k else e - r_beg w T J k
def r_A (w T J k : Nat) : Int32 := nI (r_beg w T J k)
def r_B (e w T J k : Nat) : Int32 := nI (r_wid e w T J k)
theorem r_beg_le {w T J : Nat} (hw : w ≤ 200) (hT2 : T ≤ 200) (hJ9 : J ≤ 9) : ∀ k : Nat, k ≤ 100 → r_beg w T J k ≤ 30000 := by
  have h : ∀ k : Nat, r_beg w T J k ≤ 209 * k := by
    intro k
    induction k with
    | zero => exact Nat.le_refl 0
    | succ k ih =>
      have hwd : r_wd w T k ≤ 200 := by unfold r_wd; split <;> omega
      show r_beg w T J k + (r_wd w T k + J) ≤ 209 * (k + 1)
      omega
  intro k hk
  have := h k
  omega
theorem m_lay_loop {Z f : Nat → Int32} {F : Nat → Nat → Int32} {e w T J P : Nat} (hT : f 1 = nI T) (hJ : f 2 = nI J) (he : e ≤ 5000) (hw : w ≤ 200) (hT2 : T ≤ 200) (hJ9 : J ≤ 9) (hP : P ≤ 100) (hP1 : ∀ j : Nat, j < P → r_beg w T J j < e) (hP2 : e ≤ r_beg w T J P) {r : Int32} {Q : Option Value → px_H → Prop} : ∀ (m k : Nat) (A B : Nat → Int32), k + m = P → (∀ j : Nat, j < k → A j = r_A w T J j ∧ B j = r_B e w T J j) → (∀ (A B : Nat → Int32) (x y : Int32), (∀ j : Nat, j < P → A j = r_A w T J j ∧ B j = r_B e w T J j) → px_PW 1 pc_143 Q 93 [some (.ref 1000), some (.int r), some (.int (nI e)), some (.int x), some (.int y)] [] ([], px_MH (upd Z 5 (nI P)) (va_up (va_up (va_up F 0 f) 8 A) 9 B))) → px_PW 1 pc_143 Q 20 [some (.ref 1000), some (.int r), some (.int (nI e)), some (.int (nI (r_beg w T J k))), some (.int (nI (r_wd w T k)))] [] ([], px_MH (upd Z 5 (nI k)) (va_up (va_up (va_up F 0 f) 8 A) 9 B))
  | m, k, A, B, hk, hAB, H => by
    have hwd : r_wd w T k ≤ 200 := by unfold r_wd; split <;> omega
    have hbg : r_beg w T J k ≤ 30000 := r_beg_le hw hT2 hJ9 k (by omega)
    refine px_PW.steps kt_143.2 3 rfl ?_
    refine px_PW.br (fun c0 => ?_) (fun c0 => ?_)
    · have c0 : (nI e) ≤ (nI (r_beg w T J k)) := of_decide_eq_true c0
      have c0 : e ≤ r_beg w T J k := (nI_leI (a := e) (b := r_beg w T J k) (by omega) (by omega)).mp c0
      obtain rfl : k = P := by
        rcases Nat.lt_or_ge k P with q | q
        · have := hP1 k q; omega
        · omega
      exact H A B _ _ hAB
    · have c0 : ¬ ((nI e) ≤ (nI (r_beg w T J k))) := of_decide_eq_false c0
      have c0 : ¬ (e ≤ r_beg w T J k) := fun q => c0 ((nI_leI (a := e) (b := r_beg w T J k) (by omega) (by omega)).mpr q)
      obtain ⟨m2, rfl⟩ : ∃ m2, m = m2 + 1 := ⟨m - 1, by
        rcases Nat.eq_zero_or_pos m with q | q
        · subst q; obtain rfl : k = P := by omega
          exact absurd hP2 c0
        · omega⟩
      refine px_PW.steps kt_143.2 5 rfl ?_
      refine mr_8 kt_143.2 rfl (n := k) rfl (by omega) ?_
      refine px_PW.steps kt_143.2 9 rfl ?_
      refine px_PW.br (fun c1 => ?_) (fun c1 => ?_)
      · have c1 : ((nI (r_beg w T J k)) + (nI (r_wd w T k))) ≤ (nI e) := of_decide_eq_true c1
        have c1 : r_beg w T J k + r_wd w T k ≤ e := by rw [nI_add] at c1; exact (nI_leI (by omega) (by omega)).mp c1
        refine px_PW.steps kt_143.2 1 rfl ?_
        refine mr_9 kt_143.2 rfl (n := k) rfl (by omega) ?_
        refine px_PW.steps kt_143.2 5 rfl ?_
        refine mr_5 kt_143.2 rfl ?_
        refine px_PW.steps kt_143.2 5 rfl ?_
        refine px_PW.steps kt_143.2 1 rfl ?_
        refine px_PW.steps kt_143.2 6 rfl ?_
        refine px_PW.steps kt_143.2 1 rfl ?_
        refine px_PW.steps kt_143.2 2 rfl ?_
        have eB : (nI (r_wd w T k)) = r_B e w T J k := by unfold r_B r_wid; rw [if_pos c1]
        have g := m_lay_loop hT hJ he hw hT2 hJ9 hP hP1 hP2 (Z := Z) (F := F) (r := r) (Q := Q) m2 (k + 1) (upd A k (nI (r_beg w T J k))) (upd B k (nI (r_wd w T k))) (by omega) (fun j hj => by
          rcases Nat.lt_or_ge j k with q | q
          · rw [px_upd_ne _ _ (by omega), px_upd_ne _ _ (by omega)]; exact hAB j q
          · obtain rfl : j = k := by omega
            rw [px_upd_self, px_upd_self]; exact ⟨rfl, eB⟩) H
        rw [nI_succ k] at g
        refine px_PW.lc (lv' := [some (.ref 1000), some (.int r), some (.int (nI e)), some (.int (nI (r_beg w T J (k + 1)))), some (.int (nI (r_wd w T (k + 1))))]) (show ([some (.ref 1000), some (.int r), some (.int (nI e)), some (.int (nI (r_beg w T J k) + (nI (r_wd w T k) + f 2))), some (.int (f 1))] : px_L) = _ from by rw [hT, hJ, nI_add, nI_add]; rfl) ?_
        exact g
      · have c1 : ¬ (((nI (r_beg w T J k)) + (nI (r_wd w T k))) ≤ (nI e)) := of_decide_eq_false c1
        have c1 : ¬ (r_beg w T J k + r_wd w T k ≤ e) := by rw [nI_add] at c1; exact fun q => c1 ((nI_leI (by omega) (by omega)).mpr q)
        refine px_PW.steps kt_143.2 4 rfl ?_
        refine mr_9 kt_143.2 rfl (n := k) rfl (by omega) ?_
        refine px_PW.steps kt_143.2 5 rfl ?_
        refine mr_5 kt_143.2 rfl ?_
        refine px_PW.steps kt_143.2 5 rfl ?_
        refine px_PW.steps kt_143.2 1 rfl ?_
        refine px_PW.steps kt_143.2 6 rfl ?_
        refine px_PW.steps kt_143.2 1 rfl ?_
        refine px_PW.steps kt_143.2 2 rfl ?_
        have eB : (nI e - nI (r_beg w T J k)) = r_B e w T J k := by unfold r_B r_wid; rw [if_neg c1]; exact zz_sub (by omega)
        have g := m_lay_loop hT hJ he hw hT2 hJ9 hP hP1 hP2 (Z := Z) (F := F) (r := r) (Q := Q) m2 (k + 1) (upd A k (nI (r_beg w T J k))) (upd B k (nI e - nI (r_beg w T J k))) (by omega) (fun j hj => by
          rcases Nat.lt_or_ge j k with q | q
          · rw [px_upd_ne _ _ (by omega), px_upd_ne _ _ (by omega)]; exact hAB j q
          · obtain rfl : j = k := by omega
            rw [px_upd_self, px_upd_self]; exact ⟨rfl, eB⟩) H
        rw [nI_succ k] at g
        refine px_PW.lc (lv' := [some (.ref 1000), some (.int r), some (.int (nI e)), some (.int (nI (r_beg w T J (k + 1)))), some (.int (nI (r_wd w T (k + 1))))]) (show ([some (.ref 1000), some (.int r), some (.int (nI e)), some (.int (nI (r_beg w T J k) + (nI (r_wd w T k) + f 2))), some (.int (f 1))] : px_L) = _ from by rw [hT, hJ, nI_add, nI_add]; rfl) ?_
        exact g
theorem mm_lay {Z f A B : Nat → Int32} {F : Nat → Nat → Int32} {p : Int32} {e w T J P : Nat} {r : Int32} (hlen : s_mlen f r = nI e) (hfst : s_mfst f r = nI w) (hT : f 1 = nI T) (hJ : f 2 = nI J) (he : e ≤ 5000) (hw : w ≤ 200) (hT2 : T ≤ 200) (hJ9 : J ≤ 9) (hP : P ≤ 100) (hP1 : ∀ j : Nat, j < P → r_beg w T J j < e) (hP2 : e ≤ r_beg w T J P) : px_PM 2 143 [.ref 1000, .int r] ([], px_MH (upd Z 5 p) (va_up (va_up (va_up F 0 f) 8 A) 9 B)) (fun r2 h' => r2 = none ∧ ∃ A' B' : Nat → Int32, (∀ j : Nat, j < P → A' j = r_A w T J j ∧ B' j = r_B e w T J j) ∧ h' = ([], px_MH (upd Z 5 (nI P)) (va_up (va_up (va_up F 0 f) 8 A') 9 B'))) := by
  refine px_PM.start (nL := 5) (code := pc_143) rfl rfl ?_
  refine px_PW.steps kt_143.2 2 rfl ?_
  refine px_PW.callV kt_143.2 rfl rfl rfl rfl (mm_mlen _) (by decide) (fun v h1 q => ?_)
  obtain ⟨rfl, rfl⟩ := q
  refine px_PW.steps kt_143.2 5 rfl ?_
  refine px_PW.callV kt_143.2 rfl rfl rfl rfl (mm_mfst _) (by decide) (fun v h1 q => ?_)
  obtain ⟨rfl, rfl⟩ := q
  refine px_PW.steps kt_143.2 3 rfl ?_
  refine mr_5 kt_143.2 rfl ?_
  refine px_PW.lc (lv' := [some (.ref 1000), some (.int r), some (.int (nI e)), some (.int (nI (r_beg w T J 0))), some (.int (nI (r_wd w T 0)))]) (show ([some (.ref 1000), some (.int r), some (.int (s_mlen f r)), some (.int 0), some (.int (s_mfst f r))] : px_L) = _ from by rw [hlen, hfst]; rfl) ?_
  refine m_lay_loop hT hJ he hw hT2 hJ9 hP hP1 hP2 P 0 A B (by omega) (fun j hj => absurd hj (by omega)) (fun A2 B2 x y h2 => ?_)
  exact px_PW.ret kt_143.2 rfl rfl ⟨rfl, A2, B2, h2, rfl⟩
