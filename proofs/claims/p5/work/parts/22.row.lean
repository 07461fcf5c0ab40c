theorem px_op_6 {d : Nat} {code : Nat → Option px_A} (hT : px_frT code) {Q : Option Value → px_H → Prop} {pc : Nat} {x : Int32} {lv : px_L} {r : List Value} {Z N : Nat → Int32} {F : Nat → Nat → Int32} (hc : code pc = some (px_putf true 4 0)) (kk : px_PW d code Q (pc + 3) lv r (px_CH (upd Z 6 x) N F, [])) : px_PW d code Q pc lv (.int x :: .ref 54 :: r) (px_CH Z N F, []) := px_PW.putf hT hc rfl rfl kk
theorem px_op_7 {d : Nat} {code : Nat → Option px_A} (hT : px_frT code) {Q : Option Value → px_H → Prop} {pc : Nat} {x : Int32} {lv : px_L} {r : List Value} {Z N : Nat → Int32} {F : Nat → Nat → Int32} (hc : code pc = some (px_putf true 4 1)) (kk : px_PW d code Q (pc + 3) lv r (px_CH (upd Z 7 x) N F, [])) : px_PW d code Q pc lv (.int x :: .ref 54 :: r) (px_CH Z N F, []) := px_PW.putf hT hc rfl rfl kk
theorem px_op_8 {d : Nat} {code : Nat → Option px_A} (hT : px_frT code) {Q : Option Value → px_H → Prop} {pc : Nat} {x : Int32} {lv : px_L} {r : List Value} {Z N : Nat → Int32} {F : Nat → Nat → Int32} (hc : code pc = some (px_putf true 4 2)) (kk : px_PW d code Q (pc + 3) lv r (px_CH (upd Z 8 x) N F, [])) : px_PW d code Q pc lv (.int x :: .ref 54 :: r) (px_CH Z N F, []) := px_PW.putf hT hc rfl rfl kk
theorem px_op_9 {d : Nat} {code : Nat → Option px_A} (hT : px_frT code) {Q : Option Value → px_H → Prop} {pc : Nat} {x : Int32} {lv : px_L} {r : List Value} {Z N : Nat → Int32} {F : Nat → Nat → Int32} (hc : code pc = some (px_putf true 4 3)) (kk : px_PW d code Q (pc + 3) lv r (px_CH (upd Z 9 x) N F, [])) : px_PW d code Q pc lv (.int x :: .ref 54 :: r) (px_CH Z N F, []) := px_PW.putf hT hc rfl rfl kk
theorem px_op_10 {d : Nat} {code : Nat → Option px_A} (hT : px_frT code) {Q : Option Value → px_H → Prop} {pc : Nat} {x : Int32} {lv : px_L} {r : List Value} {Z N : Nat → Int32} {F : Nat → Nat → Int32} (hc : code pc = some (px_putf true 4 4)) (kk : px_PW d code Q (pc + 3) lv r (px_CH (upd Z 10 x) N F, [])) : px_PW d code Q pc lv (.int x :: .ref 54 :: r) (px_CH Z N F, []) := px_PW.putf hT hc rfl rfl kk
theorem px_op_11 {d : Nat} {code : Nat → Option px_A} (hT : px_frT code) {Q : Option Value → px_H → Prop} {pc : Nat} {x : Int32} {lv : px_L} {r : List Value} {Z N : Nat → Int32} {F : Nat → Nat → Int32} (hc : code pc = some (px_putf true 4 5)) (kk : px_PW d code Q (pc + 3) lv r (px_CH (upd Z 11 x) N F, [])) : px_PW d code Q pc lv (.int x :: .ref 54 :: r) (px_CH Z N F, []) := px_PW.putf hT hc rfl rfl kk
theorem px_op_12 {d : Nat} {code : Nat → Option px_A} (hT : px_frT code) {Q : Option Value → px_H → Prop} {pc : Nat} {x : Int32} {lv : px_L} {r : List Value} {Z N : Nat → Int32} {F : Nat → Nat → Int32} (hc : code pc = some (px_putf true 4 6)) (kk : px_PW d code Q (pc + 3) lv r (px_CH (upd Z 12 x) N F, [])) : px_PW d code Q pc lv (.int x :: .ref 54 :: r) (px_CH Z N F, []) := px_PW.putf hT hc rfl rfl kk
theorem px_op_13 {d : Nat} {code : Nat → Option px_A} (hT : px_frT code) {Q : Option Value → px_H → Prop} {pc : Nat} {x : Int32} {lv : px_L} {r : List Value} {Z N : Nat → Int32} {F : Nat → Nat → Int32} (hc : code pc = some (px_putf true 4 7)) (kk : px_PW d code Q (pc + 3) lv r (px_CH (upd Z 13 x) N F, [])) : px_PW d code Q pc lv (.int x :: .ref 54 :: r) (px_CH Z N F, []) := px_PW.putf hT hc rfl rfl kk
theorem px_op_14 {d : Nat} {code : Nat → Option px_A} (hT : px_frT code) {Q : Option Value → px_H → Prop} {pc : Nat} {x : Int32} {lv : px_L} {r : List Value} {Z N : Nat → Int32} {F : Nat → Nat → Int32} (hc : code pc = some (px_putf true 4 8)) (kk : px_PW d code Q (pc + 3) lv r (px_CH (upd Z 14 x) N F, [])) : px_PW d code Q pc lv (.int x :: .ref 54 :: r) (px_CH Z N F, []) := px_PW.putf hT hc rfl rfl kk
theorem px_op_0 {d : Nat} {code : Nat → Option px_A} (hT : px_frT code) {Q : Option Value → px_H → Prop} {pc : Nat} {x : Int32} {lv : px_L} {r : List Value} {Z N : Nat → Int32} {F : Nat → Nat → Int32} (hc : code pc = some (px_putf true 0 9)) (kk : px_PW d code Q (pc + 3) lv r (px_CH (upd Z 0 x) N F, [])) : px_PW d code Q pc lv (.int x :: .ref 1 :: r) (px_CH Z N F, []) := px_PW.putf hT hc rfl rfl kk
theorem px_op_1 {d : Nat} {code : Nat → Option px_A} (hT : px_frT code) {Q : Option Value → px_H → Prop} {pc : Nat} {x : Int32} {lv : px_L} {r : List Value} {Z N : Nat → Int32} {F : Nat → Nat → Int32} (hc : code pc = some (px_putf true 0 9)) (kk : px_PW d code Q (pc + 3) lv r (px_CH (upd Z 1 x) N F, [])) : px_PW d code Q pc lv (.int x :: .ref 20 :: r) (px_CH Z N F, []) := px_PW.putf hT hc rfl rfl kk
theorem px_op_21 {d : Nat} {code : Nat → Option px_A} (hT : px_frT code) {Q : Option Value → px_H → Prop} {pc : Nat} {x : Int32} {lv : px_L} {r : List Value} {Z N : Nat → Int32} {F : Nat → Nat → Int32} (hc : code pc = some (px_putf true 7 2)) (kk : px_PW d code Q (pc + 3) lv r (px_CH (upd Z 21 x) N F, [])) : px_PW d code Q pc lv (.int x :: .ref 0 :: r) (px_CH Z N F, []) := px_PW.putf hT hc rfl rfl kk
theorem px_op_2 {d : Nat} {code : Nat → Option px_A} (hT : px_frT code) {Q : Option Value → px_H → Prop} {pc : Nat} {x : Int32} {lv : px_L} {r : List Value} {Z N : Nat → Int32} {F : Nat → Nat → Int32} (hc : code pc = some (px_putf true 5 1)) (kk : px_PW d code Q (pc + 3) lv r (px_CH (upd Z 2 x) N F, [])) : px_PW d code Q pc lv (.int x :: .ref 42 :: r) (px_CH Z N F, []) := px_PW.putf hT hc rfl rfl kk
theorem px_op_3 {d : Nat} {code : Nat → Option px_A} (hT : px_frT code) {Q : Option Value → px_H → Prop} {pc : Nat} {x : Int32} {lv : px_L} {r : List Value} {Z N : Nat → Int32} {F : Nat → Nat → Int32} (hc : code pc = some (px_putf true 5 1)) (kk : px_PW d code Q (pc + 3) lv r (px_CH (upd Z 3 x) N F, [])) : px_PW d code Q pc lv (.int x :: .ref 45 :: r) (px_CH Z N F, []) := px_PW.putf hT hc rfl rfl kk
theorem px_op_4 {d : Nat} {code : Nat → Option px_A} (hT : px_frT code) {Q : Option Value → px_H → Prop} {pc : Nat} {x : Int32} {lv : px_L} {r : List Value} {Z N : Nat → Int32} {F : Nat → Nat → Int32} (hc : code pc = some (px_putf true 5 1)) (kk : px_PW d code Q (pc + 3) lv r (px_CH (upd Z 4 x) N F, [])) : px_PW d code Q pc lv (.int x :: .ref 48 :: r) (px_CH Z N F, []) := px_PW.putf hT hc rfl rfl kk
theorem px_op_5 {d : Nat} {code : Nat → Option px_A} (hT : px_frT code) {Q : Option Value → px_H → Prop} {pc : Nat} {x : Int32} {lv : px_L} {r : List Value} {Z N : Nat → Int32} {F : Nat → Nat → Int32} (hc : code pc = some (px_putf true 5 1)) (kk : px_PW d code Q (pc + 3) lv r (px_CH (upd Z 5 x) N F, [])) : px_PW d code Q pc lv (.int x :: .ref 51 :: r) (px_CH Z N F, []) := px_PW.putf hT hc rfl rfl kk
theorem px_op_15 {d : Nat} {code : Nat → Option px_A} (hT : px_frT code) {Q : Option Value → px_H → Prop} {pc : Nat} {x : Int32} {lv : px_L} {r : List Value} {Z N : Nat → Int32} {F : Nat → Nat → Int32} (hc : code pc = some (px_putf true 2 2)) (kk : px_PW d code Q (pc + 3) lv r (px_CH (upd Z 15 x) N F, [])) : px_PW d code Q pc lv (.int x :: .ref 55 :: r) (px_CH Z N F, []) := px_PW.putf hT hc rfl rfl kk
theorem px_op_16 {d : Nat} {code : Nat → Option px_A} (hT : px_frT code) {Q : Option Value → px_H → Prop} {pc : Nat} {x : Int32} {lv : px_L} {r : List Value} {Z N : Nat → Int32} {F : Nat → Nat → Int32} (hc : code pc = some (px_putf true 2 3)) (kk : px_PW d code Q (pc + 3) lv r (px_CH (upd Z 16 x) N F, [])) : px_PW d code Q pc lv (.int x :: .ref 55 :: r) (px_CH Z N F, []) := px_PW.putf hT hc rfl rfl kk
theorem px_op_18 {d : Nat} {code : Nat → Option px_A} (hT : px_frT code) {Q : Option Value → px_H → Prop} {pc : Nat} {x : Int32} {lv : px_L} {r : List Value} {Z N : Nat → Int32} {F : Nat → Nat → Int32} (hc : code pc = some (px_putf true 6 1)) (kk : px_PW d code Q (pc + 3) lv r (px_CH (upd Z 18 x) N F, [])) : px_PW d code Q pc lv (.int x :: .ref 63 :: r) (px_CH Z N F, []) := px_PW.putf hT hc rfl rfl kk
theorem px_op_19 {d : Nat} {code : Nat → Option px_A} (hT : px_frT code) {Q : Option Value → px_H → Prop} {pc : Nat} {x : Int32} {lv : px_L} {r : List Value} {Z N : Nat → Int32} {F : Nat → Nat → Int32} (hc : code pc = some (px_putf true 6 2)) (kk : px_PW d code Q (pc + 3) lv r (px_CH (upd Z 19 x) N F, [])) : px_PW d code Q pc lv (.int x :: .ref 63 :: r) (px_CH Z N F, []) := px_PW.putf hT hc rfl rfl kk
theorem px_op_20 {d : Nat} {code : Nat → Option px_A} (hT : px_frT code) {Q : Option Value → px_H → Prop} {pc : Nat} {x : Int32} {lv : px_L} {r : List Value} {Z N : Nat → Int32} {F : Nat → Nat → Int32} (hc : code pc = some (px_putf true 6 3)) (kk : px_PW d code Q (pc + 3) lv r (px_CH (upd Z 20 x) N F, [])) : px_PW d code Q pc lv (.int x :: .ref 63 :: r) (px_CH Z N F, []) := px_PW.putf hT hc rfl rfl kk
theorem px_op_17 {d : Nat} {code : Nat → Option px_A} (hT : px_frT code) {Q : Option Value → px_H → Prop} {pc : Nat} {x : Int32} {lv : px_L} {r : List Value} {Z N : Nat → Int32} {F : Nat → Nat → Int32} (hx : (x == 0 || x == 1) = true) (hc : code pc = some (px_putf false 2 4)) (kk : px_PW d code Q (pc + 3) lv r (px_CH (upd Z 17 x) N F, [])) : px_PW d code Q pc lv (.int x :: .ref 55 :: r) (px_CH Z N F, []) := px_PW.putf hT hc rfl (by rw [Bool.false_or, hx]; rfl) kk
def i_min (x y : Int32) : Int32 := if y < x then y else x
def i_max (x y : Int32) : Int32 := if x < y then y else x
def i_quo (a b : Int32) : Int32 := if b = 0 then 0 else a / b
def i_rem (a b : Int32) : Int32 := if b = 0 then 0 else a - a / b * b
def w_beg (Z : Nat → Int32) (i : Int32) : Int32 := if 0 < i then Z 6 + Z 9 + (i - 1) * (Z 8 + Z 9) else 0
def w_end (Z : Nat → Int32) (i : Int32) : Int32 := i_min (Z 7) (Z 6 + i * (Z 8 + Z 9))
def w_wid (Z : Nat → Int32) (i : Int32) : Int32 := w_end Z i - w_beg Z i
def w_nar (Z : Nat → Int32) : Int32 := i_min (w_wid Z 0) (w_wid Z (Z 10 - 1))
def w_cut (Z : Nat → Int32) (x : Int32) : Int32 := if Z 8 ≤ x then 0 else 1
def w_half (Z : Nat → Int32) (x : Int32) : Int32 := if Z 8 < 2 * x + 3 then 0 else 1
def w_ofE (Z : Nat → Int32) (a b : Int32) : Int32 := (if a = 0 then 0 else 1) + (if b = 0 ∨ Z 10 ≤ 1 then 0 else 1)
def w_cuts (Z : Nat → Int32) : Int32 := w_ofE Z (w_cut Z (w_wid Z 0)) (w_cut Z (w_wid Z (Z 10 - 1)))
def w_halves (Z : Nat → Int32) : Int32 := w_ofE Z (w_half Z (w_wid Z 0)) (w_half Z (w_wid Z (Z 10 - 1)))
def w_beh (Z : Nat → Int32) (x : Int32) : Int32 := if 1 ≤ x - Z 6 - Z 9 then 1 + i_quo (x - Z 6 - Z 9 - 1) (Z 8 + Z 9) else 0
def w_enb (Z : Nat → Int32) (x : Int32) : Int32 := if x < Z 7 then (if Z 6 ≤ x then 1 + i_quo (x - Z 6) (Z 8 + Z 9) else 0) else Z 10
def w_hid (Z : Nat → Int32) (i f t : Int32) : Int32 := if w_cut Z (w_wid Z i) = 0 ∨ w_beg Z i < f ∨ t < w_end Z i then 0 else 1
def w_gb (Z : Nat → Int32) (n x : Int32) : Int32 := if Z 10 ≤ n then x - w_beg Z (n - 1) else i_min (x - w_beg Z (n - 1)) (w_beg Z n - x)
def w_ge (Z : Nat → Int32) (n x : Int32) : Int32 := if Z 10 ≤ n then (if n ≤ 0 then 1000000 else x - w_end Z (n - 1)) else i_min (if n ≤ 0 then 1000000 else x - w_end Z (n - 1)) (w_end Z n - x)
theorem rw_beg {Z N : Nat → Int32} {F : Nat → Nat → Int32} (i : Int32) : px_PM 1 26 [.ref 54, .int i] (px_CH Z N F, []) (fun r h' => r = some (.int (w_beg Z i)) ∧ h' = (px_CH Z N F, [])) := by
  refine px_PM.start (nL := 2) (code := pc_26) rfl rfl ?_
  refine px_PW.steps kt_26.2 2 rfl ?_
  refine px_PW.br (fun c0 => ?_) (fun c0 => ?_)
  · have c0 := of_decide_eq_true c0
    refine px_PW.steps kt_26.2 15 rfl ?_
    refine px_PW.ret kt_26.2 rfl rfl ?_
    exact ⟨by simp [w_beg, *], rfl⟩
  · have c0 := of_decide_eq_false c0
    refine px_PW.steps kt_26.2 2 rfl ?_
    refine px_PW.ret kt_26.2 rfl rfl ?_
    exact ⟨by simp [w_beg, *], rfl⟩
theorem rw_end {Z N : Nat → Int32} {F : Nat → Nat → Int32} (i : Int32) : px_PM 1 27 [.ref 54, .int i] (px_CH Z N F, []) (fun r h' => r = some (.int (w_end Z i)) ∧ h' = (px_CH Z N F, [])) := by
  refine px_PM.start (nL := 2) (code := pc_27) rfl rfl ?_
  refine px_PW.steps kt_27.2 13 rfl ?_
  refine px_PW.ret kt_27.2 rfl rfl ?_
  exact ⟨rfl, rfl⟩
theorem rw_wid {Z N : Nat → Int32} {F : Nat → Nat → Int32} (i : Int32) : px_PM 2 28 [.ref 54, .int i] (px_CH Z N F, []) (fun r h' => r = some (.int (w_wid Z i)) ∧ h' = (px_CH Z N F, [])) := by
  refine px_PM.start (nL := 2) (code := pc_28) rfl rfl ?_
  refine px_PW.steps kt_28.2 2 rfl ?_
  refine px_PW.callV kt_28.2 rfl rfl rfl rfl (rw_end _) (by decide) (fun v h1 q => ?_)
  obtain ⟨rfl, rfl⟩ := q
  refine px_PW.steps kt_28.2 2 rfl ?_
  refine px_PW.callV kt_28.2 rfl rfl rfl rfl (rw_beg _) (by decide) (fun v h1 q => ?_)
  obtain ⟨rfl, rfl⟩ := q
  refine px_PW.steps kt_28.2 1 rfl ?_
  refine px_PW.ret kt_28.2 rfl rfl ?_
  exact ⟨rfl, rfl⟩
theorem rw_nar {Z N : Nat → Int32} {F : Nat → Nat → Int32} : px_PM 3 29 [.ref 54] (px_CH Z N F, []) (fun r h' => r = some (.int (w_nar Z)) ∧ h' = (px_CH Z N F, [])) := by
  refine px_PM.start (nL := 1) (code := pc_29) rfl rfl ?_
  refine px_PW.steps kt_29.2 2 rfl ?_
  refine px_PW.callV kt_29.2 rfl rfl rfl rfl (rw_wid _) (by decide) (fun v h1 q => ?_)
  obtain ⟨rfl, rfl⟩ := q
  refine px_PW.steps kt_29.2 5 rfl ?_
  refine px_PW.callV kt_29.2 rfl rfl rfl rfl (rw_wid _) (by decide) (fun v h1 q => ?_)
  obtain ⟨rfl, rfl⟩ := q
  refine px_PW.steps kt_29.2 1 rfl ?_
  refine px_PW.ret kt_29.2 rfl rfl ?_
  exact ⟨rfl, rfl⟩
theorem rw_cut {Z N : Nat → Int32} {F : Nat → Nat → Int32} (x : Int32) : px_PM 1 34 [.ref 54, .int x] (px_CH Z N F, []) (fun r h' => r = some (.int (w_cut Z x)) ∧ h' = (px_CH Z N F, [])) := by
  refine px_PM.start (nL := 2) (code := pc_34) rfl rfl ?_
  refine px_PW.steps kt_34.2 4 rfl ?_
  refine px_PW.br (fun c0 => ?_) (fun c0 => ?_)
  · have c0 := of_decide_eq_true c0
    refine px_PW.steps kt_34.2 1 rfl ?_
    refine px_PW.ret kt_34.2 rfl rfl ?_
    exact ⟨by simp [w_cut, *], rfl⟩
  · have c0 := of_decide_eq_false c0
    refine px_PW.steps kt_34.2 2 rfl ?_
    refine px_PW.ret kt_34.2 rfl rfl ?_
    exact ⟨by simp [w_cut, *], rfl⟩
theorem rw_half {Z N : Nat → Int32} {F : Nat → Nat → Int32} (x : Int32) : px_PM 1 35 [.ref 54, .int x] (px_CH Z N F, []) (fun r h' => r = some (.int (w_half Z x)) ∧ h' = (px_CH Z N F, [])) := by
  refine px_PM.start (nL := 2) (code := pc_35) rfl rfl ?_
  refine px_PW.steps kt_35.2 8 rfl ?_
  refine px_PW.br (fun c0 => ?_) (fun c0 => ?_)
  · have c0 := of_decide_eq_true c0
    refine px_PW.steps kt_35.2 1 rfl ?_
    refine px_PW.ret kt_35.2 rfl rfl ?_
    exact ⟨by simp [w_half, *], rfl⟩
  · have c0 := of_decide_eq_false c0
    refine px_PW.steps kt_35.2 2 rfl ?_
    refine px_PW.ret kt_35.2 rfl rfl ?_
    exact ⟨by simp [w_half, *], rfl⟩
theorem rw_ofE {Z N : Nat → Int32} {F : Nat → Nat → Int32} (a b : Int32) : px_PM 1 33 [.ref 54, .int a, .int b] (px_CH Z N F, []) (fun r h' => r = some (.int (w_ofE Z a b)) ∧ h' = (px_CH Z N F, [])) := by
  refine px_PM.start (nL := 3) (code := pc_33) rfl rfl ?_
  refine px_PW.steps kt_33.2 2 rfl ?_
  refine px_PW.br (fun c0 => ?_) (fun c0 => ?_)
  · have c0 := of_decide_eq_true c0
    refine px_PW.steps kt_33.2 3 rfl ?_
    refine px_PW.br (fun c1 => ?_) (fun c1 => ?_)
    · have c1 := of_decide_eq_true c1
      refine px_PW.steps kt_33.2 2 rfl ?_
      refine px_PW.ret kt_33.2 rfl rfl ?_
      exact ⟨by simp [w_ofE, *], rfl⟩
    · have c1 := of_decide_eq_false c1
      refine px_PW.steps kt_33.2 4 rfl ?_
      refine px_PW.br (fun c2 => ?_) (fun c2 => ?_)
      · have c2 := of_decide_eq_true c2
        refine px_PW.steps kt_33.2 2 rfl ?_
        refine px_PW.ret kt_33.2 rfl rfl ?_
        exact ⟨by simp [w_ofE, *], rfl⟩
      · have c2 := of_decide_eq_false c2
        refine px_PW.steps kt_33.2 3 rfl ?_
        refine px_PW.ret kt_33.2 rfl rfl ?_
        exact ⟨by simp [w_ofE, *], rfl⟩
  · have c0 := of_decide_eq_false c0
    refine px_PW.steps kt_33.2 4 rfl ?_
    refine px_PW.br (fun c1 => ?_) (fun c1 => ?_)
    · have c1 := of_decide_eq_true c1
      refine px_PW.steps kt_33.2 2 rfl ?_
      refine px_PW.ret kt_33.2 rfl rfl ?_
      exact ⟨by simp [w_ofE, *], rfl⟩
    · have c1 := of_decide_eq_false c1
      refine px_PW.steps kt_33.2 4 rfl ?_
      refine px_PW.br (fun c2 => ?_) (fun c2 => ?_)
      · have c2 := of_decide_eq_true c2
        refine px_PW.steps kt_33.2 2 rfl ?_
        refine px_PW.ret kt_33.2 rfl rfl ?_
        exact ⟨by simp [w_ofE, *], rfl⟩
      · have c2 := of_decide_eq_false c2
        refine px_PW.steps kt_33.2 3 rfl ?_
        refine px_PW.ret kt_33.2 rfl rfl ?_
        exact ⟨by simp [w_ofE, *], rfl⟩
theorem rw_cuts {Z N : Nat → Int32} {F : Nat → Nat → Int32} : px_PM 4 30 [.ref 54] (px_CH Z N F, []) (fun r h' => r = some (.int (w_cuts Z)) ∧ h' = (px_CH Z N F, [])) := by
  refine px_PM.start (nL := 1) (code := pc_30) rfl rfl ?_
  refine px_PW.steps kt_30.2 4 rfl ?_
  refine px_PW.callV kt_30.2 rfl rfl rfl rfl (rw_wid _) (by decide) (fun v h1 q => ?_)
  obtain ⟨rfl, rfl⟩ := q
  refine px_PW.callV kt_30.2 rfl rfl rfl rfl (rw_cut _) (by decide) (fun v h1 q => ?_)
  obtain ⟨rfl, rfl⟩ := q
  refine px_PW.steps kt_30.2 6 rfl ?_
  refine px_PW.callV kt_30.2 rfl rfl rfl rfl (rw_wid _) (by decide) (fun v h1 q => ?_)
  obtain ⟨rfl, rfl⟩ := q
  refine px_PW.callV kt_30.2 rfl rfl rfl rfl (rw_cut _) (by decide) (fun v h1 q => ?_)
  obtain ⟨rfl, rfl⟩ := q
  refine px_PW.callV kt_30.2 rfl rfl rfl rfl (rw_ofE _ _) (by decide) (fun v h1 q => ?_)
  obtain ⟨rfl, rfl⟩ := q
  refine px_PW.ret kt_30.2 rfl rfl ?_
  exact ⟨rfl, rfl⟩
theorem rw_halves {Z N : Nat → Int32} {F : Nat → Nat → Int32} : px_PM 4 31 [.ref 54] (px_CH Z N F, []) (fun r h' => r = some (.int (w_halves Z)) ∧ h' = (px_CH Z N F, [])) := by
  refine px_PM.start (nL := 1) (code := pc_31) rfl rfl ?_
  refine px_PW.steps kt_31.2 4 rfl ?_
  refine px_PW.callV kt_31.2 rfl rfl rfl rfl (rw_wid _) (by decide) (fun v h1 q => ?_)
  obtain ⟨rfl, rfl⟩ := q
  refine px_PW.callV kt_31.2 rfl rfl rfl rfl (rw_half _) (by decide) (fun v h1 q => ?_)
  obtain ⟨rfl, rfl⟩ := q
  refine px_PW.steps kt_31.2 6 rfl ?_
  refine px_PW.callV kt_31.2 rfl rfl rfl rfl (rw_wid _) (by decide) (fun v h1 q => ?_)
  obtain ⟨rfl, rfl⟩ := q
  refine px_PW.callV kt_31.2 rfl rfl rfl rfl (rw_half _) (by decide) (fun v h1 q => ?_)
  obtain ⟨rfl, rfl⟩ := q
  refine px_PW.callV kt_31.2 rfl rfl rfl rfl (rw_ofE _ _) (by decide) (fun v h1 q => ?_)
  obtain ⟨rfl, rfl⟩ := q
  refine px_PW.ret kt_31.2 rfl rfl ?_
  exact ⟨rfl, rfl⟩
theorem rw_beh {Z N : Nat → Int32} {F : Nat → Nat → Int32} (x : Int32) : px_PM 2 37 [.ref 54, .int x] (px_CH Z N F, []) (fun r h' => r = some (.int (w_beh Z x)) ∧ h' = (px_CH Z N F, [])) := by
  refine px_PM.start (nL := 3) (code := pc_37) rfl rfl ?_
  refine px_PW.steps kt_37.2 11 rfl ?_
  refine px_PW.br (fun c0 => ?_) (fun c0 => ?_)
  · have c0 := of_decide_eq_true c0
    refine px_PW.steps kt_37.2 9 rfl ?_
    refine px_PW.callS kt_37.2 rfl rfl rfl (cc_quot _ _ _) (by decide) (fun v h1 q => ?_)
    obtain ⟨rfl, rfl⟩ := q
    refine px_PW.steps kt_37.2 1 rfl ?_
    refine px_PW.ret kt_37.2 rfl rfl ?_
    exact ⟨by simp [w_beh, i_quo, *], rfl⟩
  · have c0 := of_decide_eq_false c0
    refine px_PW.steps kt_37.2 2 rfl ?_
    refine px_PW.ret kt_37.2 rfl rfl ?_
    exact ⟨by simp [w_beh, i_quo, *], rfl⟩
theorem rw_enb {Z N : Nat → Int32} {F : Nat → Nat → Int32} (x : Int32) : px_PM 2 38 [.ref 54, .int x] (px_CH Z N F, []) (fun r h' => r = some (.int (w_enb Z x)) ∧ h' = (px_CH Z N F, [])) := by
  refine px_PM.start (nL := 2) (code := pc_38) rfl rfl ?_
  refine px_PW.steps kt_38.2 4 rfl ?_
  refine px_PW.br (fun c0 => ?_) (fun c0 => ?_)
  · have c0 := of_decide_eq_true c0
    refine px_PW.steps kt_38.2 4 rfl ?_
    refine px_PW.br (fun c1 => ?_) (fun c1 => ?_)
    · have c1 := of_decide_eq_true c1
      refine px_PW.steps kt_38.2 10 rfl ?_
      refine px_PW.callS kt_38.2 rfl rfl rfl (cc_quot _ _ _) (by decide) (fun v h1 q => ?_)
      obtain ⟨rfl, rfl⟩ := q
      refine px_PW.steps kt_38.2 1 rfl ?_
      refine px_PW.ret kt_38.2 rfl rfl ?_
      exact ⟨by simp [w_enb, i_quo, *], rfl⟩
    · have c1 := of_decide_eq_false c1
      refine px_PW.steps kt_38.2 2 rfl ?_
      refine px_PW.ret kt_38.2 rfl rfl ?_
      exact ⟨by simp [w_enb, i_quo, *], rfl⟩
  · have c0 := of_decide_eq_false c0
    refine px_PW.steps kt_38.2 2 rfl ?_
    refine px_PW.ret kt_38.2 rfl rfl ?_
    exact ⟨by simp [w_enb, i_quo, *], rfl⟩
theorem rw_hid {Z N : Nat → Int32} {F : Nat → Nat → Int32} (i f t : Int32) : px_PM 3 36 [.ref 54, .int i, .int f, .int t] (px_CH Z N F, []) (fun r h' => r = some (.int (w_hid Z i f t)) ∧ h' = (px_CH Z N F, [])) := by
  refine px_PM.start (nL := 4) (code := pc_36) rfl rfl ?_
  refine px_PW.steps kt_36.2 3 rfl ?_
  refine px_PW.callV kt_36.2 rfl rfl rfl rfl (rw_wid _) (by decide) (fun v h1 q => ?_)
  obtain ⟨rfl, rfl⟩ := q
  refine px_PW.callV kt_36.2 rfl rfl rfl rfl (rw_cut _) (by decide) (fun v h1 q => ?_)
  obtain ⟨rfl, rfl⟩ := q
  refine px_PW.steps kt_36.2 1 rfl ?_
  refine px_PW.br (fun c0 => ?_) (fun c0 => ?_)
  · have c0 := of_decide_eq_true c0
    refine px_PW.steps kt_36.2 1 rfl ?_
    refine px_PW.ret kt_36.2 rfl rfl ?_
    exact ⟨by simp [w_hid, *], rfl⟩
  · have c0 := of_decide_eq_false c0
    refine px_PW.steps kt_36.2 2 rfl ?_
    refine px_PW.callV kt_36.2 rfl rfl rfl rfl (rw_beg _) (by decide) (fun v h1 q => ?_)
    obtain ⟨rfl, rfl⟩ := q
    refine px_PW.steps kt_36.2 2 rfl ?_
    refine px_PW.br (fun c1 => ?_) (fun c1 => ?_)
    · have c1 := of_decide_eq_true c1
      refine px_PW.steps kt_36.2 1 rfl ?_
      refine px_PW.ret kt_36.2 rfl rfl ?_
      exact ⟨by simp [w_hid, *], rfl⟩
    · have c1 := of_decide_eq_false c1
      refine px_PW.steps kt_36.2 2 rfl ?_
      refine px_PW.callV kt_36.2 rfl rfl rfl rfl (rw_end _) (by decide) (fun v h1 q => ?_)
      obtain ⟨rfl, rfl⟩ := q
      refine px_PW.steps kt_36.2 2 rfl ?_
      refine px_PW.br (fun c2 => ?_) (fun c2 => ?_)
      · have c2 := of_decide_eq_true c2
        refine px_PW.steps kt_36.2 1 rfl ?_
        refine px_PW.ret kt_36.2 rfl rfl ?_
        exact ⟨by simp [w_hid, *], rfl⟩
      · have c2 := of_decide_eq_false c2
        refine px_PW.steps kt_36.2 2 rfl ?_
        refine px_PW.ret kt_36.2 rfl rfl ?_
        exact ⟨by simp [w_hid, *], rfl⟩
theorem rw_gb {Z N : Nat → Int32} {F : Nat → Nat → Int32} (n x : Int32) : px_PM 2 39 [.ref 54, .int n, .int x] (px_CH Z N F, []) (fun r h' => r = some (.int (w_gb Z n x)) ∧ h' = (px_CH Z N F, [])) := by
  refine px_PM.start (nL := 4) (code := pc_39) rfl rfl ?_
  refine px_PW.steps kt_39.2 5 rfl ?_
  refine px_PW.callV kt_39.2 rfl rfl rfl rfl (rw_beg _) (by decide) (fun v h1 q => ?_)
  obtain ⟨rfl, rfl⟩ := q
  refine px_PW.steps kt_39.2 6 rfl ?_
  refine px_PW.br (fun c0 => ?_) (fun c0 => ?_)
  · have c0 := of_decide_eq_true c0
    refine px_PW.steps kt_39.2 1 rfl ?_
    refine px_PW.ret kt_39.2 rfl rfl ?_
    exact ⟨by simp [w_gb, i_min, *], rfl⟩
  · have c0 := of_decide_eq_false c0
    refine px_PW.steps kt_39.2 3 rfl ?_
    refine px_PW.callV kt_39.2 rfl rfl rfl rfl (rw_beg _) (by decide) (fun v h1 q => ?_)
    obtain ⟨rfl, rfl⟩ := q
    refine px_PW.steps kt_39.2 4 rfl ?_
    refine px_PW.ret kt_39.2 rfl rfl ?_
    exact ⟨by simp [w_gb, i_min, *], rfl⟩
theorem rw_ge {Z N : Nat → Int32} {F : Nat → Nat → Int32} (n x : Int32) : px_PM 2 40 [.ref 54, .int n, .int x] (px_CH Z N F, []) (fun r h' => r = some (.int (w_ge Z n x)) ∧ h' = (px_CH Z N F, [])) := by
  refine px_PM.start (nL := 4) (code := pc_40) rfl rfl ?_
  refine px_PW.steps kt_40.2 2 rfl ?_
  refine px_PW.br (fun c0 => ?_) (fun c0 => ?_)
  · have c0 := of_decide_eq_true c0
    refine px_PW.steps kt_40.2 6 rfl ?_
    refine px_PW.br (fun c1 => ?_) (fun c1 => ?_)
    · have c1 := of_decide_eq_true c1
      refine px_PW.steps kt_40.2 1 rfl ?_
      refine px_PW.ret kt_40.2 rfl rfl ?_
      exact ⟨by simp [w_ge, i_min, *], rfl⟩
    · have c1 := of_decide_eq_false c1
      refine px_PW.steps kt_40.2 3 rfl ?_
      refine px_PW.callV kt_40.2 rfl rfl rfl rfl (rw_end _) (by decide) (fun v h1 q => ?_)
      obtain ⟨rfl, rfl⟩ := q
      refine px_PW.steps kt_40.2 4 rfl ?_
      refine px_PW.ret kt_40.2 rfl rfl ?_
      exact ⟨by simp [w_ge, i_min, *], rfl⟩
  · have c0 := of_decide_eq_false c0
    refine px_PW.steps kt_40.2 5 rfl ?_
    refine px_PW.callV kt_40.2 rfl rfl rfl rfl (rw_end _) (by decide) (fun v h1 q => ?_)
    obtain ⟨rfl, rfl⟩ := q
    refine px_PW.steps kt_40.2 7 rfl ?_
    refine px_PW.br (fun c1 => ?_) (fun c1 => ?_)
    · have c1 := of_decide_eq_true c1
      refine px_PW.steps kt_40.2 1 rfl ?_
      refine px_PW.ret kt_40.2 rfl rfl ?_
      exact ⟨by simp [w_ge, i_min, *], rfl⟩
    · have c1 := of_decide_eq_false c1
      refine px_PW.steps kt_40.2 3 rfl ?_
      refine px_PW.callV kt_40.2 rfl rfl rfl rfl (rw_end _) (by decide) (fun v h1 q => ?_)
      obtain ⟨rfl, rfl⟩ := q
      refine px_PW.steps kt_40.2 4 rfl ?_
      refine px_PW.ret kt_40.2 rfl rfl ?_
      exact ⟨by simp [w_ge, i_min, *], rfl⟩
