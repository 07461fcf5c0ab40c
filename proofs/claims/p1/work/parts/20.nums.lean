theorem nb_size {Z N : Nat → Int32} {F : Nat → Nat → Int32} {q : Nat} (hq : q < 27) : px_PM 1 2 [.ref (px_O q)] (px_CH Z N F, []) (fun r h' => r = some (.int (N q)) ∧ h' = (px_CH Z N F, [])) := by
  refine px_PM.start (nL := 1) (code := pc_2) rfl rfl ?_
  refine px_PW.steps kt_2.2 1 rfl ?_
  refine px_PW.getf kt_2.2 rfl (ch_obj hq) rfl ?_
  refine px_PW.ret kt_2.2 rfl rfl ?_
  exact ⟨by simp [*], rfl⟩
theorem nb_room {Z N : Nat → Int32} {F : Nat → Nat → Int32} {q : Nat} (hq : q < 27) : px_PM 1 3 [.ref (px_O q)] (px_CH Z N F, []) (fun r h' => r = some (.int (Int32.ofNat (px_lim q) - N q)) ∧ h' = (px_CH Z N F, [])) := by
  refine px_PM.start (nL := 1) (code := pc_3) rfl rfl ?_
  refine px_PW.steps kt_3.2 1 rfl ?_
  refine px_PW.getf kt_3.2 rfl (ch_obj hq) rfl ?_
  refine px_PW.alen kt_3.2 rfl (ch_arr hq) ?_
  refine px_PW.steps kt_3.2 1 rfl ?_
  refine px_PW.getf kt_3.2 rfl (ch_obj hq) rfl ?_
  refine px_PW.steps kt_3.2 1 rfl ?_
  refine px_PW.ret kt_3.2 rfl rfl ?_
  exact ⟨by simp [*], rfl⟩
theorem nb_stands {Z N : Nat → Int32} {F : Nat → Nat → Int32} {q : Nat} (hq : q < 27) (i : Int32) : px_PM 1 4 [.ref (px_O q), .int i] (px_CH Z N F, []) (fun r h' => r = some (.int (if i < 0 ∨ N q ≤ i then 0 else 1)) ∧ h' = (px_CH Z N F, [])) := by
  refine px_PM.start (nL := 2) (code := pc_4) rfl rfl ?_
  refine px_PW.steps kt_4.2 2 rfl ?_
  refine px_PW.br (fun c0 => ?_) (fun c0 => ?_)
  · have c0 := of_decide_eq_true c0
    refine px_PW.steps kt_4.2 1 rfl ?_
    refine px_PW.ret kt_4.2 rfl rfl ?_
    exact ⟨by simp [*], rfl⟩
  · have c0 := of_decide_eq_false c0
    refine px_PW.steps kt_4.2 2 rfl ?_
    refine px_PW.getf kt_4.2 rfl (ch_obj hq) rfl ?_
    refine px_PW.steps kt_4.2 1 rfl ?_
    refine px_PW.br (fun c1 => ?_) (fun c1 => ?_)
    · have c1 := of_decide_eq_true c1
      refine px_PW.steps kt_4.2 1 rfl ?_
      refine px_PW.ret kt_4.2 rfl rfl ?_
      exact ⟨by simp [*], rfl⟩
    · have c1 := of_decide_eq_false c1
      refine px_PW.steps kt_4.2 2 rfl ?_
      refine px_PW.ret kt_4.2 rfl rfl ?_
      exact ⟨by simp [*], rfl⟩
theorem nb_stretches {Z N : Nat → Int32} {F : Nat → Nat → Int32} {q : Nat} (hq : q < 27) (i n : Int32) : px_PM 1 5 [.ref (px_O q), .int i, .int n] (px_CH Z N F, []) (fun r h' => r = some (.int (if i < 0 ∨ n < 0 ∨ N q < n ∨ N q - n < i then 0 else 1)) ∧ h' = (px_CH Z N F, [])) := by
  refine px_PM.start (nL := 3) (code := pc_5) rfl rfl ?_
  refine px_PW.steps kt_5.2 2 rfl ?_
  refine px_PW.br (fun c0 => ?_) (fun c0 => ?_)
  · have c0 := of_decide_eq_true c0
    refine px_PW.steps kt_5.2 1 rfl ?_
    refine px_PW.ret kt_5.2 rfl rfl ?_
    exact ⟨by simp [*], rfl⟩
  · have c0 := of_decide_eq_false c0
    refine px_PW.steps kt_5.2 2 rfl ?_
    refine px_PW.br (fun c1 => ?_) (fun c1 => ?_)
    · have c1 := of_decide_eq_true c1
      refine px_PW.steps kt_5.2 1 rfl ?_
      refine px_PW.ret kt_5.2 rfl rfl ?_
      exact ⟨by simp [*], rfl⟩
    · have c1 := of_decide_eq_false c1
      refine px_PW.steps kt_5.2 2 rfl ?_
      refine px_PW.getf kt_5.2 rfl (ch_obj hq) rfl ?_
      refine px_PW.steps kt_5.2 1 rfl ?_
      refine px_PW.br (fun c2 => ?_) (fun c2 => ?_)
      · have c2 := of_decide_eq_true c2
        refine px_PW.steps kt_5.2 1 rfl ?_
        refine px_PW.ret kt_5.2 rfl rfl ?_
        exact ⟨by simp [*], rfl⟩
      · have c2 := of_decide_eq_false c2
        refine px_PW.steps kt_5.2 2 rfl ?_
        refine px_PW.getf kt_5.2 rfl (ch_obj hq) rfl ?_
        refine px_PW.steps kt_5.2 3 rfl ?_
        refine px_PW.br (fun c3 => ?_) (fun c3 => ?_)
        · have c3 := of_decide_eq_true c3
          refine px_PW.steps kt_5.2 1 rfl ?_
          refine px_PW.ret kt_5.2 rfl rfl ?_
          exact ⟨by simp [*], rfl⟩
        · have c3 := of_decide_eq_false c3
          refine px_PW.steps kt_5.2 2 rfl ?_
          refine px_PW.ret kt_5.2 rfl rfl ?_
          exact ⟨by simp [*], rfl⟩
theorem nb_get {Z N : Nat → Int32} {F : Nat → Nat → Int32} {q : Nat} (hq : q < 27) (i : Int32) (hl : (N q).toInt ≤ px_lim q) : px_PM 1 6 [.ref (px_O q), .int i] (px_CH Z N F, []) (fun r h' => r = some (.int (if i < 0 ∨ N q ≤ i then 0 else F q i.toNatClampNeg)) ∧ h' = (px_CH Z N F, [])) := by
  refine px_PM.start (nL := 2) (code := pc_6) rfl rfl ?_
  refine px_PW.steps kt_6.2 2 rfl ?_
  refine px_PW.br (fun c0 => ?_) (fun c0 => ?_)
  · have c0 := of_decide_eq_true c0
    refine px_PW.steps kt_6.2 1 rfl ?_
    refine px_PW.ret kt_6.2 rfl rfl ?_
    exact ⟨by simp [*], rfl⟩
  · have c0 := of_decide_eq_false c0
    refine px_PW.steps kt_6.2 2 rfl ?_
    refine px_PW.getf kt_6.2 rfl (ch_obj hq) rfl ?_
    refine px_PW.steps kt_6.2 1 rfl ?_
    refine px_PW.br (fun c1 => ?_) (fun c1 => ?_)
    · have c1 := of_decide_eq_true c1
      refine px_PW.steps kt_6.2 1 rfl ?_
      refine px_PW.ret kt_6.2 rfl rfl ?_
      exact ⟨by simp [*], rfl⟩
    · have c1 := of_decide_eq_false c1
      refine px_PW.steps kt_6.2 1 rfl ?_
      refine px_PW.getf kt_6.2 rfl (ch_obj hq) rfl ?_
      refine px_PW.steps kt_6.2 1 rfl ?_
      refine px_PW.ald kt_6.2 rfl (ch_arr hq) (px_inb_of (i32_nlt c0) (i32_nle c1) hl) ?_
      refine px_PW.steps kt_6.2 1 rfl ?_
      refine px_PW.ret kt_6.2 rfl rfl ?_
      exact ⟨by simp [*], rfl⟩
theorem nb_set {Z N : Nat → Int32} {F : Nat → Nat → Int32} {q : Nat} (hq : q < 27) (i v : Int32) (hl : (N q).toInt ≤ px_lim q) : px_PM 1 7 [.ref (px_O q), .int i, .int v] (px_CH Z N F, []) (fun r h' => r = none ∧ h' = (px_CH Z N (if i < 0 ∨ N q ≤ i then F else va_up F q (upd (F q) i.toNatClampNeg v)), [])) := by
  refine px_PM.start (nL := 3) (code := pc_7) rfl rfl ?_
  refine px_PW.steps kt_7.2 2 rfl ?_
  refine px_PW.br (fun c0 => ?_) (fun c0 => ?_)
  · have c0 := of_decide_eq_true c0
    refine px_PW.ret kt_7.2 rfl rfl ?_
    exact ⟨rfl, by simp [*]⟩
  · have c0 := of_decide_eq_false c0
    refine px_PW.steps kt_7.2 2 rfl ?_
    refine px_PW.getf kt_7.2 rfl (ch_obj hq) rfl ?_
    refine px_PW.steps kt_7.2 1 rfl ?_
    refine px_PW.br (fun c1 => ?_) (fun c1 => ?_)
    · have c1 := of_decide_eq_true c1
      refine px_PW.ret kt_7.2 rfl rfl ?_
      exact ⟨rfl, by simp [*]⟩
    · have c1 := of_decide_eq_false c1
      refine px_PW.steps kt_7.2 1 rfl ?_
      refine px_PW.getf kt_7.2 rfl (ch_obj hq) rfl ?_
      refine px_PW.steps kt_7.2 2 rfl ?_
      refine px_PW.ast kt_7.2 rfl (ch_arr hq) (px_inb_of (i32_nlt c0) (i32_nle c1) hl) ?_
      rw [ch_putF hq]
      refine px_PW.ret kt_7.2 rfl rfl ?_
      exact ⟨rfl, by simp [*]⟩
theorem nb_clear {Z N : Nat → Int32} {F : Nat → Nat → Int32} {q : Nat} (hq : q < 27) : px_PM 1 10 [.ref (px_O q)] (px_CH Z N F, []) (fun r h' => r = none ∧ h' = (px_CH Z (upd N q 0) F, [])) := by
  refine px_PM.start (nL := 1) (code := pc_10) rfl rfl ?_
  refine px_PW.steps kt_10.2 2 rfl ?_
  refine px_PW.putf kt_10.2 rfl (ch_obj hq) rfl ?_
  rw [show px_stn [Value.ref (px_O q + 1), Value.int _] 1 (Value.int _) = [Value.ref (px_O q + 1), Value.int _] from rfl, ch_putN hq]
  refine px_PW.ret kt_10.2 rfl rfl ?_
  exact ⟨rfl, rfl⟩
