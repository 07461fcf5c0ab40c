def w_lay4 (Z : Nat → Int32) (f e t j : Int32) : Nat → Int32 := upd (upd (upd (upd Z 6 f) 7 e) 8 t) 9 j
/-- the Row's fields as lay leaves them -/
def w_lay (Z : Nat → Int32) (f e t j : Int32) : Nat → Int32 := upd (w_lay4 Z f e t j) 10 (1 + w_beh (w_lay4 Z f e t j) e)
def c_len (F : Nat → Nat → Int32) (k : Int32) : Int32 := i_max 100 (F 0 0 + k * F 0 3)
def c_first (F : Nat → Nat → Int32) (k s : Int32) : Int32 := if F 0 5 = 0 ∨ k - k / 2 * 2 = 0 then s else if s + F 0 1 / 2 ≤ F 0 1 then s + F 0 1 / 2 else s + F 0 1 / 2 - F 0 1
def c_lay (Z : Nat → Int32) (F : Nat → Nat → Int32) (k s : Int32) : Nat → Int32 := w_lay Z (c_first F k s) (c_len F k) (F 0 1) (F 0 2)
theorem rw_lay {Z N : Nat → Int32} {F : Nat → Nat → Int32} (f e t j : Int32) : px_PM 3 25 [.ref 54, .int f, .int e, .int t, .int j] (px_CH Z N F, []) (fun r h' => r = none ∧ h' = (px_CH (w_lay Z f e t j) N F, [])) := by
  refine px_PM.start (nL := 5) (code := pc_25) rfl rfl ?_
  refine px_PW.steps kt_25.2 2 rfl ?_
  refine px_op_6 kt_25.2 rfl ?_
  refine px_PW.steps kt_25.2 2 rfl ?_
  refine px_op_7 kt_25.2 rfl ?_
  refine px_PW.steps kt_25.2 2 rfl ?_
  refine px_op_8 kt_25.2 rfl ?_
  refine px_PW.steps kt_25.2 2 rfl ?_
  refine px_op_9 kt_25.2 rfl ?_
  refine px_PW.steps kt_25.2 4 rfl ?_
  refine px_PW.callV kt_25.2 rfl rfl rfl rfl (rw_beh _) (by decide) (fun v h1 q => ?_)
  obtain ⟨rfl, rfl⟩ := q
  refine px_PW.steps kt_25.2 1 rfl ?_
  refine px_op_10 kt_25.2 rfl ?_
  refine px_PW.ret kt_25.2 rfl rfl ?_
  exact ⟨rfl, rfl⟩
theorem rr_len {Z N : Nat → Int32} {F : Nat → Nat → Int32} (h0 : N 0 = 7) (k : Int32) : px_PM 3 100 [.ref 0, .int k] (px_CH Z N F, []) (fun r h' => r = some (.int (c_len F k)) ∧ h' = (px_CH Z N F, [])) := by
  refine px_PM.start (nL := 2) (code := pc_100) rfl rfl ?_
  refine px_PW.steps kt_100.2 3 rfl ?_
  refine px_PW.callV kt_100.2 rfl rfl rfl rfl (cc_is h0 0 (by decide)) (by decide) (fun v h1 q => ?_)
  obtain ⟨rfl, rfl⟩ := q
  refine px_PW.steps kt_100.2 3 rfl ?_
  refine px_PW.callV kt_100.2 rfl rfl rfl rfl (cc_is h0 3 (by decide)) (by decide) (fun v h1 q => ?_)
  obtain ⟨rfl, rfl⟩ := q
  refine px_PW.steps kt_100.2 3 rfl ?_
  refine px_PW.ret kt_100.2 rfl rfl ?_
  exact ⟨rfl, rfl⟩
theorem rr_first {Z N : Nat → Int32} {F : Nat → Nat → Int32} (h0 : N 0 = 7) (k s : Int32) : px_PM 3 101 [.ref 0, .int k, .int s] (px_CH Z N F, []) (fun r h' => r = some (.int (c_first F k s)) ∧ h' = (px_CH Z N F, [])) := by
  refine px_PM.start (nL := 4) (code := pc_101) rfl rfl ?_
  refine px_PW.steps kt_101.2 2 rfl ?_
  refine px_PW.callV kt_101.2 rfl rfl rfl rfl (cc_is h0 5 (by decide)) (by decide) (fun v h1 q => ?_)
  obtain ⟨rfl, rfl⟩ := q
  refine px_PW.steps kt_101.2 1 rfl ?_
  refine px_PW.br (fun c0 => ?_) (fun c0 => ?_)
  · have c0 := of_decide_eq_true c0
    refine px_PW.steps kt_101.2 1 rfl ?_
    refine px_PW.ret kt_101.2 rfl rfl ?_
    exact ⟨by simp [c_first, *], rfl⟩
  · have c0 := of_decide_eq_false c0
    refine px_PW.steps kt_101.2 4 rfl ?_
    refine px_PW.br (fun c1 => ?_) (fun c1 => ?_)
    · have c1 := of_decide_eq_false (px_nt c1)
      refine px_PW.steps kt_101.2 3 rfl ?_
      refine px_PW.callV kt_101.2 rfl rfl rfl rfl (cc_is h0 1 (by decide)) (by decide) (fun v h1 q => ?_)
      obtain ⟨rfl, rfl⟩ := q
      refine px_PW.steps kt_101.2 7 rfl ?_
      refine px_PW.callV kt_101.2 rfl rfl rfl rfl (cc_is h0 1 (by decide)) (by decide) (fun v h1 q => ?_)
      obtain ⟨rfl, rfl⟩ := q
      refine px_PW.steps kt_101.2 1 rfl ?_
      refine px_PW.br (fun c2 => ?_) (fun c2 => ?_)
      · have c2 := of_decide_eq_true c2
        refine px_PW.steps kt_101.2 1 rfl ?_
        refine px_PW.ret kt_101.2 rfl rfl ?_
        exact ⟨by simp [c_first, *], rfl⟩
      · have c2 := of_decide_eq_false c2
        refine px_PW.steps kt_101.2 3 rfl ?_
        refine px_PW.callV kt_101.2 rfl rfl rfl rfl (cc_is h0 1 (by decide)) (by decide) (fun v h1 q => ?_)
        obtain ⟨rfl, rfl⟩ := q
        refine px_PW.steps kt_101.2 2 rfl ?_
        refine px_PW.ret kt_101.2 rfl rfl ?_
        exact ⟨by simp [c_first, *], rfl⟩
    · have c1 := of_decide_eq_true (px_nf c1)
      refine px_PW.steps kt_101.2 1 rfl ?_
      refine px_PW.ret kt_101.2 rfl rfl ?_
      exact ⟨by simp [c_first, *], rfl⟩
theorem rr_lay {Z N : Nat → Int32} {F : Nat → Nat → Int32} (h0 : N 0 = 7) (k s : Int32) : px_PM 4 102 [.ref 0, .int k, .int s] (px_CH Z N F, []) (fun r h' => r = none ∧ h' = (px_CH (c_lay Z F k s) N F, [])) := by
  refine px_PM.start (nL := 3) (code := pc_102) rfl rfl ?_
  refine px_PW.steps kt_102.2 5 rfl ?_
  refine px_PW.callV kt_102.2 rfl rfl rfl rfl (rr_first h0 _ _) (by decide) (fun v h1 q => ?_)
  obtain ⟨rfl, rfl⟩ := q
  refine px_PW.steps kt_102.2 2 rfl ?_
  refine px_PW.callV kt_102.2 rfl rfl rfl rfl (rr_len h0 _) (by decide) (fun v h1 q => ?_)
  obtain ⟨rfl, rfl⟩ := q
  refine px_PW.steps kt_102.2 2 rfl ?_
  refine px_PW.callV kt_102.2 rfl rfl rfl rfl (cc_is h0 1 (by decide)) (by decide) (fun v h1 q => ?_)
  obtain ⟨rfl, rfl⟩ := q
  refine px_PW.steps kt_102.2 2 rfl ?_
  refine px_PW.callV kt_102.2 rfl rfl rfl rfl (cc_is h0 2 (by decide)) (by decide) (fun v h1 q => ?_)
  obtain ⟨rfl, rfl⟩ := q
  refine px_PW.callV kt_102.2 rfl rfl rfl rfl (rw_lay _ _ _ _) (by decide) (fun v h1 q => ?_)
  obtain ⟨rfl, rfl⟩ := q
  refine px_PW.ret kt_102.2 rfl rfl ?_
  exact ⟨rfl, rfl⟩
