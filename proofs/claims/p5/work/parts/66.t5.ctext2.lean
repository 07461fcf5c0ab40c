/-! the class's read and text (66.t5: ctext2.py) -/
def t_sign (u : Nat) (s : Int32) (R : t_R) : t_R × Bool := if R.2.2.2.2 = true then t_begin u s R.1 R.2.1 R.2.2.1 R.2.2.2.1 R.2.2.2.2 else t_goOn s R.1 R.2.1 R.2.2.1 R.2.2.2.1 R.2.2.2.2
/-- signs from place i on, so many; the place of the one that does not go on -/
def t_run (u : Nat) (T : Nat → Int32) : Nat → Nat → t_R → t_R × Option Nat
  | 0, _, R => (R, none)
  | m + 1, i, R => if (t_sign u (T i) R).2 = true then t_run u T m (i + 1) (t_sign u (T i) R).1 else ((t_sign u (T i) R).1, some i)
theorem t_run_y {u : Nat} {T : Nat → Int32} {m i : Nat} {R : t_R} {X : t_R × Bool} (e : t_sign u (T i) R = X) (c : X.2 = true) : t_run u T (m + 1) i R = t_run u T m (i + 1) X.1 := by
  subst e
  exact if_pos c
theorem t_run_n {u : Nat} {T : Nat → Int32} {m i : Nat} {R : t_R} {X : t_R × Bool} (e : t_sign u (T i) R = X) (c : ¬ (X.2 = true)) : t_run u T (m + 1) i R = (X.1, some i) := by
  subst e
  exact if_neg c
def t_fin (r : t_R × Option Nat) : t_R := match r.2 with
  | some _ => r.1
  | none => ((t_stl 1 r.1.1 r.1.2.1 r.1.2.2.1).1, (t_stl 1 r.1.1 r.1.2.1 r.1.2.2.1).2.1, (t_stl 1 r.1.1 r.1.2.1 r.1.2.2.1).2.2, r.1.2.2.2.1, r.1.2.2.2.2)
def t_end (P : Nat) (r : t_R × Option Nat) : Int32 := match r.2 with
  | some j => nI j
  | none => if r.1.2.2.2.2 = true then nI P else if nI (t_stl 1 r.1.1 r.1.2.1 r.1.2.2.1).2.1.length ≤ 0 then -1 else nI P
theorem ct_tsize {Z N : Nat → Int32} {F : Nat → Nat → Int32} {P : Nat} (h : N 5 = nI P) : px_PM 1 2 [.ref 12] (px_CH Z N F, []) (fun r h' => r = some (.int (nI P)) ∧ h' = (px_CH Z N F, [])) := by
  have g := nb_size (Z := Z) (N := N) (F := F) (q := 5) (by decide)
  rw [h] at g
  exact g
theorem ct_tget {Z N : Nat → Int32} {F : Nat → Nat → Int32} {P i : Nat} {T : Nat → Int32} (h : N 5 = nI P) (hP : P ≤ 60) (hT : ∀ j : Nat, j < P → F 5 j = T j) (hi : i < P) : px_PM 1 6 [.ref 12, .int (nI i)] (px_CH Z N F, []) (fun r h' => r = some (.int (T i)) ∧ h' = (px_CH Z N F, [])) := by
  have g := nb_getN (Z := Z) (N := N) (F := F) (q := 5) (by decide) h (show P ≤ px_lim 5 from hP) hi
  rw [hT i hi] at g
  exact g
/-- what reading leaves -/
def t_rdQ (Z N : Nat → Int32) (F : Nat → Nat → Int32) (P : Nat) (x : t_R × Option Nat) : Option Value → px_H → Prop := fun r h' => r = some (.int (t_end P x)) ∧ ∃ (Z' N' : Nat → Int32) (F' : Nat → Nat → Int32), h' = (px_CH Z' N' F', []) ∧ t_rp Z' N' F' (t_fin x) 60 ∧ t_same Z N F Z' N' F'
theorem t_rep.k60 {Z N : Nat → Int32} {F : Nat → Nat → Int32} {c p : List Int32} {o d : Int32} {w : Bool} {k : Nat} (h : t_rep Z N F c p o d w k) : t_rep Z N F c p o d w 60 := ⟨h.1, h.2.1, h.2.2.1, h.2.2.2.1, Nat.le_trans h.2.2.2.2.1 h.2.2.2.2.2, Nat.le_refl 60⟩
theorem t_rdQ.tr {Z N Z1 N1 : Nat → Int32} {F F1 : Nat → Nat → Int32} {P : Nat} {x : t_R × Option Nat} (s : t_same Z N F Z1 N1 F1) {r : Option Value} {h' : px_H} (q : t_rdQ Z1 N1 F1 P x r h') : t_rdQ Z N F P x r h' := by
  obtain ⟨q1, Z', N', F', q2, q3, q4⟩ := q
  exact ⟨q1, Z', N', F', q2, q3, s.tr q4⟩
theorem ct_read_loop {P u : Nat} {T : Nat → Int32} (hP : P ≤ 60) (hu : u ≤ 1) : ∀ (m i : Nat) (R : t_R) (Z N : Nat → Int32) (F : Nat → Nat → Int32) (w4 w5 : Option Value), i + m = P → N 5 = nI P → (∀ j : Nat, j < P → F 5 j = T j) → t_rp Z N F R i → px_PW 6 pc_14 (t_rdQ Z N F P (t_run u T m i R)) 31 [some (.ref 55), some (.ref 12), some (.ref (t_nm u)), some (.int (nI i)), w4, w5] [] (px_CH Z N F, [])
  | m, i, R, Z, N, F, w4, w5, hm, hN, hT, h0 => by
    have h : t_rep Z N F R.1 R.2.1 R.2.2.1 R.2.2.2.1 R.2.2.2.2 i := h0
    refine px_PW.steps kt_14.2 2 rfl ?_
    refine px_PW.callV kt_14.2 rfl rfl rfl rfl (ct_tsize (((t_same.rf (Z := Z) (N := N) (F := F)).2.1 5 (by omega)).trans hN)) (by decide) (fun v h1 q => ?_)
    obtain ⟨rfl, rfl⟩ := q
    refine px_PW.steps kt_14.2 1 rfl ?_
    refine px_PW.br (fun c0 => ?_) (fun c0 => ?_)
    · have c0 : (nI P) ≤ (nI i) := of_decide_eq_true c0
      have c0 : P ≤ i := (nI_leI (a := P) (b := i) (by omega) (by omega)).mp c0
      obtain rfl : m = 0 := by omega
      refine px_PW.steps kt_14.2 2 rfl ?_
      refine px_PW.callV kt_14.2 rfl rfl rfl rfl (ct_settle (h) _) (by decide) (fun v h1 q => ?_)
      obtain ⟨rfl, Z19, N19, F19, rfl, r19, s19⟩ := q
      refine px_PW.steps kt_14.2 3 rfl ?_
      refine px_PW.br (fun c1 => ?_) (fun c1 => ?_)
      · have c1 : ¬ ((Z19 17) = 0) := of_decide_eq_false (px_nt c1)
        rw [show Z19 17 = if R.2.2.2.2 = true then 1 else 0 from (r19).hw] at c1
        have c1 := px_b1n c1
        refine px_PW.steps kt_14.2 1 rfl ?_
        refine px_PW.callV kt_14.2 rfl rfl rfl rfl (ct_tsize ((((t_same.rf (Z := Z) (N := N) (F := F)).tr s19).2.1 5 (by omega)).trans hN)) (by decide) (fun v h1 q => ?_)
        obtain ⟨rfl, rfl⟩ := q
        refine px_PW.steps kt_14.2 1 rfl ?_
        refine px_PW.ret kt_14.2 rfl rfl ?_
        have E : t_end P (R, none) = (nI P) := (if_pos c1)
        exact ⟨congrArg (fun z => some (Value.int z)) E.symm, _, _, _, rfl, (r19).k60, ((t_same.rf (Z := Z) (N := N) (F := F)).tr s19)⟩
      · have c1 : (Z19 17) = 0 := of_decide_eq_true (px_nf c1)
        rw [show Z19 17 = if R.2.2.2.2 = true then 1 else 0 from (r19).hw] at c1
        have c1 := px_b1z c1
        refine px_PW.steps kt_14.2 2 rfl ?_
        refine px_PW.callV kt_14.2 rfl rfl rfl rfl (ct_size (r19)) (by decide) (fun v h1 q => ?_)
        obtain ⟨rfl, rfl⟩ := q
        refine px_PW.steps kt_14.2 1 rfl ?_
        refine px_PW.br (fun c2 => ?_) (fun c2 => ?_)
        · have c2 : (nI (t_stl 1 R.1 R.2.1 R.2.2.1).2.1.length) ≤ 0 := of_decide_eq_true c2
          refine px_PW.steps kt_14.2 1 rfl ?_
          refine px_PW.ret kt_14.2 rfl rfl ?_
          have E : t_end P (R, none) = (-1) := (if_neg c1).trans (if_pos c2)
          exact ⟨congrArg (fun z => some (Value.int z)) E.symm, _, _, _, rfl, (r19).k60, ((t_same.rf (Z := Z) (N := N) (F := F)).tr s19)⟩
        · have c2 : ¬ ((nI (t_stl 1 R.1 R.2.1 R.2.2.1).2.1.length) ≤ 0) := of_decide_eq_false c2
          refine px_PW.steps kt_14.2 1 rfl ?_
          refine px_PW.callV kt_14.2 rfl rfl rfl rfl (ct_tsize ((((t_same.rf (Z := Z) (N := N) (F := F)).tr s19).2.1 5 (by omega)).trans hN)) (by decide) (fun v h1 q => ?_)
          obtain ⟨rfl, rfl⟩ := q
          refine px_PW.steps kt_14.2 1 rfl ?_
          refine px_PW.ret kt_14.2 rfl rfl ?_
          have E : t_end P (R, none) = (nI P) := (if_neg c1).trans (if_neg c2)
          exact ⟨congrArg (fun z => some (Value.int z)) E.symm, _, _, _, rfl, (r19).k60, ((t_same.rf (Z := Z) (N := N) (F := F)).tr s19)⟩
    · have c0 : ¬ ((nI P) ≤ (nI i)) := of_decide_eq_false c0
      have c0 : ¬ (P ≤ i) := fun q => c0 ((nI_leI (a := P) (b := i) (by omega) (by omega)).mpr q)
      obtain ⟨m2, rfl⟩ : ∃ m2, m = m2 + 1 := ⟨m - 1, by omega⟩
      refine px_PW.steps kt_14.2 2 rfl ?_
      refine px_PW.callV kt_14.2 rfl rfl rfl rfl (ct_tget hN hP hT (by omega)) (by decide) (fun v h1 q => ?_)
      obtain ⟨rfl, rfl⟩ := q
      refine px_PW.steps kt_14.2 4 rfl ?_
      refine px_PW.br (fun c3 => ?_) (fun c3 => ?_)
      · have c3 : (Z 17) = 0 := of_decide_eq_true c3
        rw [show Z 17 = if R.2.2.2.2 = true then 1 else 0 from (h).hw] at c3
        have c3 := px_b1z c3
        refine px_PW.steps kt_14.2 2 rfl ?_
        refine px_PW.callV kt_14.2 rfl rfl rfl rfl (ct_goOn (h) (by omega) _) (by decide) (fun v h1 q => ?_)
        obtain ⟨rfl, Z20, N20, F20, rfl, r20, s20⟩ := q
        refine px_PW.steps kt_14.2 3 rfl ?_
        refine px_PW.br (fun c4 => ?_) (fun c4 => ?_)
        · have c4 : (t_goOn (T i) R.1 R.2.1 R.2.2.1 R.2.2.2.1 R.2.2.2.2).2 = true := px_b1n (of_decide_eq_false (px_nt c4))
          have eS : t_sign u (T i) R = (t_goOn (T i) R.1 R.2.1 R.2.2.1 R.2.2.2.1 R.2.2.2.2) := if_neg c3
          have e0 : t_run u T (m2 + 1) i R = t_run u T m2 (i + 1) ((t_goOn (T i) R.1 R.2.1 R.2.2.1 R.2.2.2.1 R.2.2.2.2)).1 := t_run_y eS c4
          refine px_PW.steps kt_14.2 2 rfl ?_
          rw [e0]
          have g := ct_read_loop (T := T) hP hu m2 (i + 1) ((t_goOn (T i) R.1 R.2.1 R.2.2.1 R.2.2.2.1 R.2.2.2.2)).1 Z20 N20 F20 (some (.int (T i))) (some (.int (if (t_goOn (T i) R.1 R.2.1 R.2.2.1 R.2.2.2.1 R.2.2.2.2).2 = true then 1 else 0 : Int32))) (by omega) ((((t_same.rf (Z := Z) (N := N) (F := F)).tr s20).2.1 5 (by omega)).trans hN) (fun j hj => (congrFun (((t_same.rf (Z := Z) (N := N) (F := F)).tr s20).2.2 5 (by omega)) j).trans (hT j hj)) r20
          rw [nI_succ i] at g
          exact px_PW.imp g (fun v h' q => t_rdQ.tr ((t_same.rf (Z := Z) (N := N) (F := F)).tr s20) q)
        · have c4 : ¬ ((t_goOn (T i) R.1 R.2.1 R.2.2.1 R.2.2.2.1 R.2.2.2.2).2 = true) := px_b1z (of_decide_eq_true (px_nf c4))
          have eS : t_sign u (T i) R = (t_goOn (T i) R.1 R.2.1 R.2.2.1 R.2.2.2.1 R.2.2.2.2) := if_neg c3
          have e0 : t_run u T (m2 + 1) i R = (((t_goOn (T i) R.1 R.2.1 R.2.2.1 R.2.2.2.1 R.2.2.2.2)).1, some i) := t_run_n eS c4
          refine px_PW.steps kt_14.2 1 rfl ?_
          refine px_PW.ret kt_14.2 rfl rfl ?_
          rw [e0]
          exact ⟨rfl, _, _, _, rfl, (r20).k60, ((t_same.rf (Z := Z) (N := N) (F := F)).tr s20)⟩
      · have c3 : ¬ ((Z 17) = 0) := of_decide_eq_false c3
        rw [show Z 17 = if R.2.2.2.2 = true then 1 else 0 from (h).hw] at c3
        have c3 := px_b1n c3
        refine px_PW.steps kt_14.2 3 rfl ?_
        refine px_PW.callV kt_14.2 rfl rfl rfl rfl (ct_begin (h) (by omega) hu _) (by decide) (fun v h1 q => ?_)
        obtain ⟨rfl, Z21, N21, F21, rfl, r21, s21⟩ := q
        refine px_PW.steps kt_14.2 4 rfl ?_
        refine px_PW.br (fun c5 => ?_) (fun c5 => ?_)
        · have c5 : (t_begin u (T i) R.1 R.2.1 R.2.2.1 R.2.2.2.1 R.2.2.2.2).2 = true := px_b1n (of_decide_eq_false (px_nt c5))
          have eS : t_sign u (T i) R = (t_begin u (T i) R.1 R.2.1 R.2.2.1 R.2.2.2.1 R.2.2.2.2) := if_pos c3
          have e0 : t_run u T (m2 + 1) i R = t_run u T m2 (i + 1) ((t_begin u (T i) R.1 R.2.1 R.2.2.1 R.2.2.2.1 R.2.2.2.2)).1 := t_run_y eS c5
          refine px_PW.steps kt_14.2 2 rfl ?_
          rw [e0]
          have g := ct_read_loop (T := T) hP hu m2 (i + 1) ((t_begin u (T i) R.1 R.2.1 R.2.2.1 R.2.2.2.1 R.2.2.2.2)).1 Z21 N21 F21 (some (.int (T i))) (some (.int (if (t_begin u (T i) R.1 R.2.1 R.2.2.1 R.2.2.2.1 R.2.2.2.2).2 = true then 1 else 0 : Int32))) (by omega) ((((t_same.rf (Z := Z) (N := N) (F := F)).tr s21).2.1 5 (by omega)).trans hN) (fun j hj => (congrFun (((t_same.rf (Z := Z) (N := N) (F := F)).tr s21).2.2 5 (by omega)) j).trans (hT j hj)) r21
          rw [nI_succ i] at g
          exact px_PW.imp g (fun v h' q => t_rdQ.tr ((t_same.rf (Z := Z) (N := N) (F := F)).tr s21) q)
        · have c5 : ¬ ((t_begin u (T i) R.1 R.2.1 R.2.2.1 R.2.2.2.1 R.2.2.2.2).2 = true) := px_b1z (of_decide_eq_true (px_nf c5))
          have eS : t_sign u (T i) R = (t_begin u (T i) R.1 R.2.1 R.2.2.1 R.2.2.2.1 R.2.2.2.2) := if_pos c3
          have e0 : t_run u T (m2 + 1) i R = (((t_begin u (T i) R.1 R.2.1 R.2.2.1 R.2.2.2.1 R.2.2.2.2)).1, some i) := t_run_n eS c5
          refine px_PW.steps kt_14.2 1 rfl ?_
          refine px_PW.ret kt_14.2 rfl rfl ?_
          rw [e0]
          exact ⟨rfl, _, _, _, rfl, (r21).k60, ((t_same.rf (Z := Z) (N := N) (F := F)).tr s21)⟩
theorem ct_read {Z N : Nat → Int32} {F : Nat → Nat → Int32} {P u : Nat} {T : Nat → Int32} (hw : px_cw N) (hP : P ≤ 60) (hN : N 5 = nI P) (hT : ∀ j : Nat, j < P → F 5 j = T j) (hu : u ≤ 1) : px_PM 7 14 [.ref 55, .ref 12, .ref (t_nm u)] (px_CH Z N F, []) (t_rdQ Z N F P (t_run u T P 0 ([], [], 0, 0, true))) := by
  refine px_PM.start (nL := 6) (code := pc_14) rfl rfl ?_
  refine px_PW.steps kt_14.2 2 rfl ?_
  refine px_PW.callV kt_14.2 rfl rfl rfl rfl (nb_clear (q := 23) (by decide)) (by decide) (fun v h1 q => ?_)
  obtain ⟨rfl, rfl⟩ := q
  refine px_PW.steps kt_14.2 2 rfl ?_
  refine px_PW.callV kt_14.2 rfl rfl rfl rfl (nb_clear (q := 24) (by decide)) (by decide) (fun v h1 q => ?_)
  obtain ⟨rfl, rfl⟩ := q
  refine px_PW.steps kt_14.2 2 rfl ?_
  refine px_op_15 kt_14.2 rfl ?_
  refine px_PW.steps kt_14.2 2 rfl ?_
  refine px_op_16 kt_14.2 rfl ?_
  refine px_PW.steps kt_14.2 2 rfl ?_
  refine px_op_17 kt_14.2 rfl rfl ?_
  refine px_PW.steps kt_14.2 2 rfl ?_
  have hs : t_same Z N F (upd (upd (upd Z 15 0) 16 0) 17 1) (upd (upd N 23 0) 24 0) F := ⟨fun i hi => by rw [px_upd_ne _ _ (by omega), px_upd_ne _ _ (by omega), px_upd_ne _ _ (by omega)], fun q hq => by rw [px_upd_ne _ _ (by omega), px_upd_ne _ _ (by omega)], fun _ _ => rfl⟩
  have hr : t_rp (upd (upd (upd Z 15 0) 16 0) 17 1) (upd (upd N 23 0) 24 0) F ([], [], 0, 0, true) 0 := ⟨t_cw (n := 0) (t_cw (n := 0) hw (Or.inl rfl) (by omega)) (Or.inr rfl) (by omega), ⟨by rw [px_upd_ne _ _ (by omega), px_upd_self]; rfl, trivial⟩, ⟨px_upd_self _ _ _, trivial⟩, ⟨by rw [px_upd_ne _ _ (by omega), px_upd_ne _ _ (by omega), px_upd_self], by rw [px_upd_ne _ _ (by omega), px_upd_self], px_upd_self _ _ _⟩, Nat.le_refl 0, by omega⟩
  exact px_PW.imp (ct_read_loop hP hu P 0 _ _ _ F none none (by omega) ((hs.2.1 5 (by omega)).trans hN) hT hr) (fun v h' q => t_rdQ.tr hs q)
theorem zz_st_ov {f g : Nat → Int32} {n : Nat} : ∀ l : List Int32, l.length ≤ n → zz_st f l → zz_st (px_ov f g n) l
  | [], _, _ => trivial
  | a :: r, hn, h => by
    simp only [List.length_cons] at hn
    exact ⟨(if_pos (by omega)).trans h.1, zz_st_ov r (by omega) h.2⟩
theorem kc_text0 {Z N : Nat → Int32} {F : Nat → Nat → Int32} {P : Nat} {T : Nat → Int32} (hw : px_cw N) (hP : P ≤ 60) (hN : N 5 = nI P) (hT : ∀ j : Nat, j < P → F 5 j = T j) : px_PM 8 58 [.ref 0, .int 0] (px_CH Z N F, []) (fun r h' => ∃ x : t_R × Option Nat, x = t_run 0 T P 0 ([], [], 0, 0, true) ∧ r = some (.int (if t_end P x = -1 then 1 else -10 - t_end P x)) ∧ ∃ (Z' N' : Nat → Int32) (F' : Nat → Nat → Int32), h' = (px_CH Z' N' F', []) ∧ (∀ i : Nat, ¬ (15 ≤ i ∧ i ≤ 17) → Z' i = Z i) ∧ px_cw N' ∧ N' 5 = 0 ∧ (∀ j : Nat, ¬ (j = 5 ∨ j = 6 ∨ j = 23 ∨ j = 24) → N' j = N j) ∧ (∀ j : Nat, ¬ (j = 6 ∨ j = 23 ∨ j = 24) → F' j = F j) ∧ (¬ (t_end P x = -1) → N' 6 = N 6 ∧ F' 6 = F 6) ∧ (t_end P x = -1 → N' 6 = nI (t_fin x).1.length ∧ zz_st (F' 6) (t_fin x).1)) := by
  refine px_PM.start (nL := 3) (code := pc_58) rfl rfl ?_
  refine px_PW.steps kt_58.2 1 rfl ?_
  refine px_PW.callS kt_58.2 rfl rfl rfl (cc_isUse _ _) (by decide) (fun v h1 q => ?_)
  obtain ⟨rfl, rfl⟩ := q
  rw [if_pos (by decide)]
  refine px_PW.steps kt_58.2 1 rfl ?_
  refine px_PW.br (fun _ => ?_) (fun c0 => absurd c0 (by decide))
  refine px_PW.steps kt_58.2 7 rfl ?_
  refine px_PW.steps kt_58.2 2 rfl ?_
  refine px_PW.callV kt_58.2 rfl rfl rfl rfl (ct_read (u := 0) hw hP hN hT (by decide)) (by decide) (fun v h1 q => ?_)
  obtain ⟨rfl, Z1, N1, F1, rfl, r1, s1⟩ := q
  generalize hx : t_run 0 T P 0 ([], [], 0, 0, true) = x at r1 ⊢
  refine px_PW.steps kt_58.2 4 rfl ?_
  refine px_PW.callV kt_58.2 rfl rfl rfl rfl (nb_clear (q := 5) (by decide)) (by decide) (fun v h1 q => ?_)
  obtain ⟨rfl, rfl⟩ := q
  have hw1 : px_cw (upd N1 5 0) := (show px_cw N1 from r1.1).upd (by decide) (by decide) (by decide) ⟨by decide, by decide⟩
  refine px_PW.steps kt_58.2 3 rfl ?_
  refine px_PW.br (fun c0 => ?_) (fun c0 => ?_)
  · have c0 : t_end P x = -1 := of_decide_eq_true c0
    refine px_PW.steps kt_58.2 3 rfl ?_
    refine px_PW.callV kt_58.2 rfl rfl rfl rfl (cc_textOf0) (by decide) (fun v h1 q => ?_)
    obtain ⟨rfl, rfl⟩ := q
    refine px_PW.steps kt_58.2 3 rfl ?_
    refine px_PW.callV kt_58.2 rfl rfl rfl rfl (nb_copy (q := 6) (p := 23) (by decide) (by decide) (by decide) (hw1.nn (by decide)) (hw1.lim (by decide)) (hw1.lim (q := 23) (by decide))) (by decide) (fun v h1 q => ?_)
    obtain ⟨rfl, rfl⟩ := q
    refine px_PW.steps kt_58.2 1 rfl ?_
    refine px_PW.ret kt_58.2 rfl rfl ?_
    have e23 : (upd N1 5 0) 23 = nI (t_fin x).1.length := (px_upd_ne N1 _ (by omega)).trans r1.2.1.1
    have hlen : (t_fin x).1.length ≤ 60 := Nat.le_trans (Nat.le_add_right _ _) r1.2.2.2.2.1
    refine ⟨x, rfl, by rw [if_pos c0], Z1, _, _, rfl, s1.1, ?_, ?_, ?_, ?_, fun q => absurd c0 q, fun _ => ⟨?_, ?_⟩⟩
    · rw [e23]; exact hw1.upd (by decide) (by decide) (by decide) ⟨nI_pos' (by omega), by rw [nI_toInt (by omega)]; exact Int.ofNat_le.mpr hlen⟩
    · rw [px_upd_ne _ _ (by omega), px_upd_self]
    · intro j hj; rw [px_upd_ne _ _ (by omega), px_upd_ne _ _ (by omega)]; exact s1.2.1 j (by omega)
    · intro j hj; rw [px_up_ne _ _ (by omega)]; exact s1.2.2 j (by omega)
    · rw [px_upd_self]; exact e23
    · rw [px_up_self, e23, nI_clamp (by omega)]
      exact zz_st_ov (t_fin x).1 (Nat.le_refl _) r1.2.1.2
  · have c0 : ¬ (t_end P x = -1) := of_decide_eq_false c0
    refine px_PW.steps kt_58.2 3 rfl ?_
    refine px_PW.ret kt_58.2 rfl rfl ?_
    exact ⟨x, rfl, by rw [if_neg c0], Z1, _, _, rfl, s1.1, hw1, px_upd_self _ _ _, fun j hj => (px_upd_ne _ _ (by omega)).trans (s1.2.1 j (by omega)), fun j hj => s1.2.2 j (by omega), fun _ => ⟨(px_upd_ne _ _ (by omega)).trans (s1.2.1 6 (by omega)), s1.2.2 6 (by omega)⟩, fun q => absurd q c0⟩
theorem kc_text1 {Z N : Nat → Int32} {F : Nat → Nat → Int32} {P : Nat} {T : Nat → Int32} (hw : px_cw N) (hP : P ≤ 60) (hN : N 5 = nI P) (hT : ∀ j : Nat, j < P → F 5 j = T j) : px_PM 8 58 [.ref 0, .int 1] (px_CH Z N F, []) (fun r h' => ∃ x : t_R × Option Nat, x = t_run 1 T P 0 ([], [], 0, 0, true) ∧ r = some (.int (if t_end P x = -1 then 1 else -10 - t_end P x)) ∧ ∃ (Z' N' : Nat → Int32) (F' : Nat → Nat → Int32), h' = (px_CH Z' N' F', []) ∧ (∀ i : Nat, ¬ (15 ≤ i ∧ i ≤ 17) → Z' i = Z i) ∧ px_cw N' ∧ N' 5 = 0 ∧ (∀ j : Nat, ¬ (j = 5 ∨ j = 7 ∨ j = 23 ∨ j = 24) → N' j = N j) ∧ (∀ j : Nat, ¬ (j = 7 ∨ j = 23 ∨ j = 24) → F' j = F j) ∧ (¬ (t_end P x = -1) → N' 7 = N 7 ∧ F' 7 = F 7) ∧ (t_end P x = -1 → N' 7 = nI (t_fin x).1.length ∧ zz_st (F' 7) (t_fin x).1)) := by
  refine px_PM.start (nL := 3) (code := pc_58) rfl rfl ?_
  refine px_PW.steps kt_58.2 1 rfl ?_
  refine px_PW.callS kt_58.2 rfl rfl rfl (cc_isUse _ _) (by decide) (fun v h1 q => ?_)
  obtain ⟨rfl, rfl⟩ := q
  rw [if_pos (by decide)]
  refine px_PW.steps kt_58.2 1 rfl ?_
  refine px_PW.br (fun _ => ?_) (fun c0 => absurd c0 (by decide))
  refine px_PW.steps kt_58.2 7 rfl ?_
  refine px_PW.steps kt_58.2 1 rfl ?_
  refine px_PW.callV kt_58.2 rfl rfl rfl rfl (ct_read (u := 1) hw hP hN hT (by decide)) (by decide) (fun v h1 q => ?_)
  obtain ⟨rfl, Z1, N1, F1, rfl, r1, s1⟩ := q
  generalize hx : t_run 1 T P 0 ([], [], 0, 0, true) = x at r1 ⊢
  refine px_PW.steps kt_58.2 4 rfl ?_
  refine px_PW.callV kt_58.2 rfl rfl rfl rfl (nb_clear (q := 5) (by decide)) (by decide) (fun v h1 q => ?_)
  obtain ⟨rfl, rfl⟩ := q
  have hw1 : px_cw (upd N1 5 0) := (show px_cw N1 from r1.1).upd (by decide) (by decide) (by decide) ⟨by decide, by decide⟩
  refine px_PW.steps kt_58.2 3 rfl ?_
  refine px_PW.br (fun c0 => ?_) (fun c0 => ?_)
  · have c0 : t_end P x = -1 := of_decide_eq_true c0
    refine px_PW.steps kt_58.2 3 rfl ?_
    refine px_PW.callV kt_58.2 rfl rfl rfl rfl (cc_textOf1) (by decide) (fun v h1 q => ?_)
    obtain ⟨rfl, rfl⟩ := q
    refine px_PW.steps kt_58.2 3 rfl ?_
    refine px_PW.callV kt_58.2 rfl rfl rfl rfl (nb_copy (q := 7) (p := 23) (by decide) (by decide) (by decide) (hw1.nn (by decide)) (hw1.lim (by decide)) (hw1.lim (q := 23) (by decide))) (by decide) (fun v h1 q => ?_)
    obtain ⟨rfl, rfl⟩ := q
    refine px_PW.steps kt_58.2 1 rfl ?_
    refine px_PW.ret kt_58.2 rfl rfl ?_
    have e23 : (upd N1 5 0) 23 = nI (t_fin x).1.length := (px_upd_ne N1 _ (by omega)).trans r1.2.1.1
    have hlen : (t_fin x).1.length ≤ 60 := Nat.le_trans (Nat.le_add_right _ _) r1.2.2.2.2.1
    refine ⟨x, rfl, by rw [if_pos c0], Z1, _, _, rfl, s1.1, ?_, ?_, ?_, ?_, fun q => absurd c0 q, fun _ => ⟨?_, ?_⟩⟩
    · rw [e23]; exact hw1.upd (by decide) (by decide) (by decide) ⟨nI_pos' (by omega), by rw [nI_toInt (by omega)]; exact Int.ofNat_le.mpr hlen⟩
    · rw [px_upd_ne _ _ (by omega), px_upd_self]
    · intro j hj; rw [px_upd_ne _ _ (by omega), px_upd_ne _ _ (by omega)]; exact s1.2.1 j (by omega)
    · intro j hj; rw [px_up_ne _ _ (by omega)]; exact s1.2.2 j (by omega)
    · rw [px_upd_self]; exact e23
    · rw [px_up_self, e23, nI_clamp (by omega)]
      exact zz_st_ov (t_fin x).1 (Nat.le_refl _) r1.2.1.2
  · have c0 : ¬ (t_end P x = -1) := of_decide_eq_false c0
    refine px_PW.steps kt_58.2 3 rfl ?_
    refine px_PW.ret kt_58.2 rfl rfl ?_
    exact ⟨x, rfl, by rw [if_neg c0], Z1, _, _, rfl, s1.1, hw1, px_upd_self _ _ _, fun j hj => (px_upd_ne _ _ (by omega)).trans (s1.2.1 j (by omega)), fun j hj => s1.2.2 j (by omega), fun _ => ⟨(px_upd_ne _ _ (by omega)).trans (s1.2.1 7 (by omega)), s1.2.2 7 (by omega)⟩, fun q => absurd q c0⟩
theorem kc_textB {Z N : Nat → Int32} {F : Nat → Nat → Int32} (hw : px_cw N) (use : Int32) (hb : ¬ (use = 0 ∨ use = 1)) : px_PM 8 58 [.ref 0, .int use] (px_CH Z N F, []) (fun r h' => r = some (.int (-1000000001)) ∧ ∃ Z' N' F', px_sc Z N F Z' N' F' ∧ h' = (px_CH Z' N' F', [])) := by
  refine px_PM.start (nL := 3) (code := pc_58) rfl rfl ?_
  refine px_PW.steps kt_58.2 1 rfl ?_
  refine px_PW.callS kt_58.2 rfl rfl rfl (cc_isUse _ _) (by decide) (fun v h1 q => ?_)
  obtain ⟨rfl, rfl⟩ := q
  rw [if_neg hb]
  refine px_PW.steps kt_58.2 1 rfl ?_
  refine px_PW.br (fun c0 => absurd c0 (by decide)) (fun _ => ?_)
  refine px_PW.steps kt_58.2 2 rfl ?_
  refine px_PW.callV kt_58.2 rfl rfl rfl rfl (cc_error hw.2.2.1 1 (by decide)) (by decide) (fun v h1 q => ?_)
  obtain ⟨rfl, rfl⟩ := q
  refine px_PW.ret kt_58.2 rfl rfl ?_
  exact ⟨rfl, _, _, _, px_sc.err, rfl⟩
