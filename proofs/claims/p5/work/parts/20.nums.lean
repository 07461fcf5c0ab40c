theorem px_upd_self (f : Nat → Int32) (k : Nat) (x : Int32) : upd f k x k = x := by simp [upd]
theorem px_up_self {α : Type} (f : Nat → α) (k : Nat) (x : α) : va_up f k x k = x := by simp [va_up]
theorem px_lim_i {q : Nat} (hq : q < 27) : (Int32.ofNat (px_lim q)).toInt = (px_lim q : Int) ∧ px_lim q ≤ 60 := by
  match q, hq with
  | 0, _ => exact ⟨by decide +kernel, by decide +kernel⟩
  | 1, _ => exact ⟨by decide +kernel, by decide +kernel⟩
  | 2, _ => exact ⟨by decide +kernel, by decide +kernel⟩
  | 3, _ => exact ⟨by decide +kernel, by decide +kernel⟩
  | 4, _ => exact ⟨by decide +kernel, by decide +kernel⟩
  | 5, _ => exact ⟨by decide +kernel, by decide +kernel⟩
  | 6, _ => exact ⟨by decide +kernel, by decide +kernel⟩
  | 7, _ => exact ⟨by decide +kernel, by decide +kernel⟩
  | 8, _ => exact ⟨by decide +kernel, by decide +kernel⟩
  | 9, _ => exact ⟨by decide +kernel, by decide +kernel⟩
  | 10, _ => exact ⟨by decide +kernel, by decide +kernel⟩
  | 11, _ => exact ⟨by decide +kernel, by decide +kernel⟩
  | 12, _ => exact ⟨by decide +kernel, by decide +kernel⟩
  | 13, _ => exact ⟨by decide +kernel, by decide +kernel⟩
  | 14, _ => exact ⟨by decide +kernel, by decide +kernel⟩
  | 15, _ => exact ⟨by decide +kernel, by decide +kernel⟩
  | 16, _ => exact ⟨by decide +kernel, by decide +kernel⟩
  | 17, _ => exact ⟨by decide +kernel, by decide +kernel⟩
  | 18, _ => exact ⟨by decide +kernel, by decide +kernel⟩
  | 19, _ => exact ⟨by decide +kernel, by decide +kernel⟩
  | 20, _ => exact ⟨by decide +kernel, by decide +kernel⟩
  | 21, _ => exact ⟨by decide +kernel, by decide +kernel⟩
  | 22, _ => exact ⟨by decide +kernel, by decide +kernel⟩
  | 23, _ => exact ⟨by decide +kernel, by decide +kernel⟩
  | 24, _ => exact ⟨by decide +kernel, by decide +kernel⟩
  | 25, _ => exact ⟨by decide +kernel, by decide +kernel⟩
  | 26, _ => exact ⟨by decide +kernel, by decide +kernel⟩
  | q + 27, h => exact absurd h (by omega)
theorem px_dec_ge {n : Int32} (h : 1 ≤ n) : 0 ≤ n - 1 ∧ n - 1 < n := by
  rw [Int32.le_iff_toInt_le] at h
  have h1 : (1 : Int32).toInt = 1 := by decide +kernel
  have e : (n - 1).toInt = n.toInt - 1 := by
    rw [Int32.toInt_sub, h1]
    have h2 := Int32.toInt_lt n
    have h3 := Int32.le_toInt n
    exact Int.bmod_eq_of_le (by omega) (by omega)
  refine ⟨?_, ?_⟩
  · rw [Int32.le_iff_toInt_le, e, Int32.toInt_zero]; omega
  · rw [Int32.lt_iff_toInt_lt, e]; omega
theorem nb_size {Z N : Nat → Int32} {F : Nat → Nat → Int32} {q : Nat} (hq : q < 27) : px_PM 1 2 [.ref (px_O q)] (px_CH Z N F, []) (fun r h' => r = some (.int (N q)) ∧ h' = (px_CH Z N F, [])) := by
  refine px_PM.start (nL := 1) (code := pc_2) rfl rfl ?_
  refine px_PW.steps kt_2.2 1 rfl ?_
  refine px_PW.getf kt_2.2 rfl (ch_obj hq) rfl ?_
  refine px_PW.ret kt_2.2 rfl rfl ?_
  exact ⟨by simp [*], rfl⟩
theorem nb_room {Z N : Nat → Int32} {F : Nat → Nat → Int32} {q : Nat} (hq : q < 27) : px_PM 1 3 [.ref (px_O q)] (px_CH Z N F, []) (fun r h' => r = some (.int (Int32.ofNat (px_lim q) - N q)) ∧ h' = (px_CH Z N F, [])) := by
  refine px_PM.start (nL := 1) (code := pc_3) rfl rfl ?_
  refine px_PW.steps kt_3.2 1 rfl ?_
  refine px_PW.getf kt_3.2 rfl (ch_obj hq) rfl ?_
  refine px_PW.alen kt_3.2 rfl (ch_arr hq) ?_
  refine px_PW.steps kt_3.2 1 rfl ?_
  refine px_PW.getf kt_3.2 rfl (ch_obj hq) rfl ?_
  refine px_PW.steps kt_3.2 1 rfl ?_
  refine px_PW.ret kt_3.2 rfl rfl ?_
  exact ⟨by simp [*], rfl⟩
theorem nb_stands {Z N : Nat → Int32} {F : Nat → Nat → Int32} {q : Nat} (hq : q < 27) (i : Int32) : px_PM 1 4 [.ref (px_O q), .int i] (px_CH Z N F, []) (fun r h' => r = some (.int (if i < 0 ∨ N q ≤ i then 0 else 1)) ∧ h' = (px_CH Z N F, [])) := by
  refine px_PM.start (nL := 2) (code := pc_4) rfl rfl ?_
  refine px_PW.steps kt_4.2 2 rfl ?_
  refine px_PW.br (fun c0 => ?_) (fun c0 => ?_)
  · have c0 := of_decide_eq_true c0
    refine px_PW.steps kt_4.2 1 rfl ?_
    refine px_PW.ret kt_4.2 rfl rfl ?_
    exact ⟨by simp [*], rfl⟩
  · have c0 := of_decide_eq_false c0
    refine px_PW.steps kt_4.2 2 rfl ?_
    refine px_PW.getf kt_4.2 rfl (ch_obj hq) rfl ?_
    refine px_PW.steps kt_4.2 1 rfl ?_
    refine px_PW.br (fun c1 => ?_) (fun c1 => ?_)
    · have c1 := of_decide_eq_true c1
      refine px_PW.steps kt_4.2 1 rfl ?_
      refine px_PW.ret kt_4.2 rfl rfl ?_
      exact ⟨by simp [*], rfl⟩
    · have c1 := of_decide_eq_false c1
      refine px_PW.steps kt_4.2 2 rfl ?_
      refine px_PW.ret kt_4.2 rfl rfl ?_
      exact ⟨by simp [*], rfl⟩
theorem nb_stretches {Z N : Nat → Int32} {F : Nat → Nat → Int32} {q : Nat} (hq : q < 27) (i n : Int32) : px_PM 1 5 [.ref (px_O q), .int i, .int n] (px_CH Z N F, []) (fun r h' => r = some (.int (if i < 0 ∨ n < 0 ∨ N q < n ∨ N q - n < i then 0 else 1)) ∧ h' = (px_CH Z N F, [])) := by
  refine px_PM.start (nL := 3) (code := pc_5) rfl rfl ?_
  refine px_PW.steps kt_5.2 2 rfl ?_
  refine px_PW.br (fun c0 => ?_) (fun c0 => ?_)
  · have c0 := of_decide_eq_true c0
    refine px_PW.steps kt_5.2 1 rfl ?_
    refine px_PW.ret kt_5.2 rfl rfl ?_
    exact ⟨by simp [*], rfl⟩
  · have c0 := of_decide_eq_false c0
    refine px_PW.steps kt_5.2 2 rfl ?_
    refine px_PW.br (fun c1 => ?_) (fun c1 => ?_)
    · have c1 := of_decide_eq_true c1
      refine px_PW.steps kt_5.2 1 rfl ?_
      refine px_PW.ret kt_5.2 rfl rfl ?_
      exact ⟨by simp [*], rfl⟩
    · have c1 := of_decide_eq_false c1
      refine px_PW.steps kt_5.2 2 rfl ?_
      refine px_PW.getf kt_5.2 rfl (ch_obj hq) rfl ?_
      refine px_PW.steps kt_5.2 1 rfl ?_
      refine px_PW.br (fun c2 => ?_) (fun c2 => ?_)
      · have c2 := of_decide_eq_true c2
        refine px_PW.steps kt_5.2 1 rfl ?_
        refine px_PW.ret kt_5.2 rfl rfl ?_
        exact ⟨by simp [*], rfl⟩
      · have c2 := of_decide_eq_false c2
        refine px_PW.steps kt_5.2 2 rfl ?_
        refine px_PW.getf kt_5.2 rfl (ch_obj hq) rfl ?_
        refine px_PW.steps kt_5.2 3 rfl ?_
        refine px_PW.br (fun c3 => ?_) (fun c3 => ?_)
        · have c3 := of_decide_eq_true c3
          refine px_PW.steps kt_5.2 1 rfl ?_
          refine px_PW.ret kt_5.2 rfl rfl ?_
          exact ⟨by simp [*], rfl⟩
        · have c3 := of_decide_eq_false c3
          refine px_PW.steps kt_5.2 2 rfl ?_
          refine px_PW.ret kt_5.2 rfl rfl ?_
          exact ⟨by simp [*], rfl⟩
theorem nb_get {Z N : Nat → Int32} {F : Nat → Nat → Int32} {q : Nat} (hq : q < 27) (i : Int32) (hl : (N q).toInt ≤ px_lim q) : px_PM 1 6 [.ref (px_O q), .int i] (px_CH Z N F, []) (fun r h' => r = some (.int (if i < 0 ∨ N q ≤ i then 0 else F q i.toNatClampNeg)) ∧ h' = (px_CH Z N F, [])) := by
  refine px_PM.start (nL := 2) (code := pc_6) rfl rfl ?_
  refine px_PW.steps kt_6.2 2 rfl ?_
  refine px_PW.br (fun c0 => ?_) (fun c0 => ?_)
  · have c0 := of_decide_eq_true c0
    refine px_PW.steps kt_6.2 1 rfl ?_
    refine px_PW.ret kt_6.2 rfl rfl ?_
    exact ⟨by simp [*], rfl⟩
  · have c0 := of_decide_eq_false c0
    refine px_PW.steps kt_6.2 2 rfl ?_
    refine px_PW.getf kt_6.2 rfl (ch_obj hq) rfl ?_
    refine px_PW.steps kt_6.2 1 rfl ?_
    refine px_PW.br (fun c1 => ?_) (fun c1 => ?_)
    · have c1 := of_decide_eq_true c1
      refine px_PW.steps kt_6.2 1 rfl ?_
      refine px_PW.ret kt_6.2 rfl rfl ?_
      exact ⟨by simp [*], rfl⟩
    · have c1 := of_decide_eq_false c1
      refine px_PW.steps kt_6.2 1 rfl ?_
      refine px_PW.getf kt_6.2 rfl (ch_obj hq) rfl ?_
      refine px_PW.steps kt_6.2 1 rfl ?_
      refine px_PW.ald kt_6.2 rfl (ch_arr hq) (px_inb_of (i32_nlt c0) (i32_nle c1) hl) ?_
      refine px_PW.steps kt_6.2 1 rfl ?_
      refine px_PW.ret kt_6.2 rfl rfl ?_
      exact ⟨by simp [*], rfl⟩
theorem nb_set {Z N : Nat → Int32} {F : Nat → Nat → Int32} {q : Nat} (hq : q < 27) (i v : Int32) (hl : (N q).toInt ≤ px_lim q) : px_PM 1 7 [.ref (px_O q), .int i, .int v] (px_CH Z N F, []) (fun r h' => r = none ∧ h' = (px_CH Z N (if i < 0 ∨ N q ≤ i then F else va_up F q (upd (F q) i.toNatClampNeg v)), [])) := by
  refine px_PM.start (nL := 3) (code := pc_7) rfl rfl ?_
  refine px_PW.steps kt_7.2 2 rfl ?_
  refine px_PW.br (fun c0 => ?_) (fun c0 => ?_)
  · have c0 := of_decide_eq_true c0
    refine px_PW.ret kt_7.2 rfl rfl ?_
    exact ⟨rfl, by simp [*]⟩
  · have c0 := of_decide_eq_false c0
    refine px_PW.steps kt_7.2 2 rfl ?_
    refine px_PW.getf kt_7.2 rfl (ch_obj hq) rfl ?_
    refine px_PW.steps kt_7.2 1 rfl ?_
    refine px_PW.br (fun c1 => ?_) (fun c1 => ?_)
    · have c1 := of_decide_eq_true c1
      refine px_PW.ret kt_7.2 rfl rfl ?_
      exact ⟨rfl, by simp [*]⟩
    · have c1 := of_decide_eq_false c1
      refine px_PW.steps kt_7.2 1 rfl ?_
      refine px_PW.getf kt_7.2 rfl (ch_obj hq) rfl ?_
      refine px_PW.steps kt_7.2 2 rfl ?_
      refine px_PW.ast kt_7.2 rfl (ch_arr hq) (px_inb_of (i32_nlt c0) (i32_nle c1) hl) ?_
      rw [ch_putF hq]
      refine px_PW.ret kt_7.2 rfl rfl ?_
      exact ⟨rfl, by simp [*]⟩
theorem nb_clear {Z N : Nat → Int32} {F : Nat → Nat → Int32} {q : Nat} (hq : q < 27) : px_PM 1 10 [.ref (px_O q)] (px_CH Z N F, []) (fun r h' => r = none ∧ h' = (px_CH Z (upd N q 0) F, [])) := by
  refine px_PM.start (nL := 1) (code := pc_10) rfl rfl ?_
  refine px_PW.steps kt_10.2 2 rfl ?_
  refine px_PW.putf kt_10.2 rfl (ch_obj hq) rfl ?_
  rw [show px_stn [Value.ref (px_O q + 1), Value.int _] 1 (Value.int _) = [Value.ref (px_O q + 1), Value.int _] from rfl, ch_putN hq]
  refine px_PW.ret kt_10.2 rfl rfl ?_
  exact ⟨rfl, rfl⟩
theorem nb_add {Z N : Nat → Int32} {F : Nat → Nat → Int32} {q : Nat} (hq : q < 27) (v : Int32) (h0 : 0 ≤ N q) : px_PM 1 8 [.ref (px_O q), .int v] (px_CH Z N F, []) (fun r h' => r = none ∧ h' = (px_CH Z (if Int32.ofNat (px_lim q) ≤ N q then N else upd N q (N q + 1)) (if Int32.ofNat (px_lim q) ≤ N q then F else va_up F q (upd (F q) (N q).toNatClampNeg v)), [])) := by
  refine px_PM.start (nL := 2) (code := pc_8) rfl rfl ?_
  refine px_PW.steps kt_8.2 1 rfl ?_
  refine px_PW.getf kt_8.2 rfl (ch_obj hq) rfl ?_
  refine px_PW.steps kt_8.2 1 rfl ?_
  refine px_PW.getf kt_8.2 rfl (ch_obj hq) rfl ?_
  refine px_PW.alen kt_8.2 rfl (ch_arr hq) ?_
  refine px_PW.steps kt_8.2 1 rfl ?_
  refine px_PW.br (fun c0 => ?_) (fun c0 => ?_)
  · have c0 := of_decide_eq_true c0
    refine px_PW.ret kt_8.2 rfl rfl ?_
    exact ⟨rfl, by simp [*]⟩
  · have c0 := of_decide_eq_false c0
    refine px_PW.steps kt_8.2 1 rfl ?_
    refine px_PW.getf kt_8.2 rfl (ch_obj hq) rfl ?_
    refine px_PW.steps kt_8.2 1 rfl ?_
    refine px_PW.getf kt_8.2 rfl (ch_obj hq) rfl ?_
    refine px_PW.steps kt_8.2 1 rfl ?_
    refine px_PW.ast kt_8.2 rfl (ch_arr hq) (px_inb_of h0 (i32_nle c0) (Int.le_of_eq (px_lim_i hq).1)) ?_
    rw [ch_putF hq]
    refine px_PW.steps kt_8.2 2 rfl ?_
    refine px_PW.getf kt_8.2 rfl (ch_obj hq) rfl ?_
    refine px_PW.steps kt_8.2 2 rfl ?_
    refine px_PW.putf kt_8.2 rfl (ch_obj hq) rfl ?_
    rw [show px_stn [Value.ref (px_O q + 1), Value.int _] 1 (Value.int _) = [Value.ref (px_O q + 1), Value.int _] from rfl, ch_putN hq]
    refine px_PW.ret kt_8.2 rfl rfl ?_
    exact ⟨rfl, by simp [*]⟩
theorem nb_pop {Z N : Nat → Int32} {F : Nat → Nat → Int32} {q : Nat} (hq : q < 27) (hl : (N q).toInt ≤ px_lim q) : px_PM 1 9 [.ref (px_O q)] (px_CH Z N F, []) (fun r h' => r = some (.int (if 1 ≤ N q then F q (N q - 1).toNatClampNeg else 0)) ∧ h' = (px_CH Z (if 1 ≤ N q then upd N q (N q - 1) else N) F, [])) := by
  refine px_PM.start (nL := 1) (code := pc_9) rfl rfl ?_
  refine px_PW.steps kt_9.2 1 rfl ?_
  refine px_PW.getf kt_9.2 rfl (ch_obj hq) rfl ?_
  refine px_PW.steps kt_9.2 2 rfl ?_
  refine px_PW.br (fun c0 => ?_) (fun c0 => ?_)
  · have c0 := of_decide_eq_true c0
    refine px_PW.steps kt_9.2 2 rfl ?_
    refine px_PW.getf kt_9.2 rfl (ch_obj hq) rfl ?_
    refine px_PW.steps kt_9.2 2 rfl ?_
    refine px_PW.putf kt_9.2 rfl (ch_obj hq) rfl ?_
    rw [show px_stn [Value.ref (px_O q + 1), Value.int _] 1 (Value.int _) = [Value.ref (px_O q + 1), Value.int _] from rfl, ch_putN hq]
    refine px_PW.steps kt_9.2 1 rfl ?_
    refine px_PW.getf kt_9.2 rfl (ch_obj hq) rfl ?_
    refine px_PW.steps kt_9.2 1 rfl ?_
    refine px_PW.getf kt_9.2 rfl (ch_obj hq) rfl ?_
    rw [px_upd_self]
    refine px_PW.ald kt_9.2 rfl (ch_arr hq) (px_inb_of (px_dec_ge c0).1 (px_dec_ge c0).2 hl) ?_
    refine px_PW.ret kt_9.2 rfl rfl ?_
    exact ⟨by simp [*], by simp [*]⟩
  · have c0 := of_decide_eq_false c0
    refine px_PW.steps kt_9.2 1 rfl ?_
    refine px_PW.ret kt_9.2 rfl rfl ?_
    exact ⟨by simp [*], by simp [*]⟩
/-- a row whose places from i on, k of them, are 0 -/
def px_zf (f : Nat → Int32) (i k : Nat) : Nat → Int32 := fun j => if i ≤ j ∧ j < i + k then 0 else f j
theorem px_zf_0 (f : Nat → Int32) (i : Nat) : px_zf f i 0 = f := by
  funext j
  unfold px_zf
  rw [if_neg (by omega)]
theorem px_zf_s (f : Nat → Int32) (i k : Nat) : px_zf (upd f i 0) (i + 1) k = px_zf f i (k + 1) := by
  funext j
  unfold px_zf upd
  by_cases h : j = i
  · subst h
    rw [if_neg (by omega), if_pos rfl, if_pos (by omega)]
  · rw [if_neg h]
    by_cases h2 : i + 1 ≤ j ∧ j < i + 1 + k
    · rw [if_pos h2, if_pos (by omega)]
    · rw [if_neg h2, if_neg (by omega)]
theorem px_up_id {α : Type} (F : Nat → α) (q : Nat) : va_up F q (F q) = F := by
  funext j
  unfold va_up
  split
  · next h => rw [h]
  · rfl
theorem px_up_up {α : Type} (F : Nat → α) (q : Nat) (a b : α) : va_up (va_up F q a) q b = va_up F q b := by
  funext j
  unfold va_up
  split <;> rfl
theorem px_ofn {n : Nat} (h : n < 2000000000) : (Int32.ofNat n).toInt = (n : Int) := nI_toInt (by omega)
theorem nb_fill_loop {Z N : Nat → Int32} {q : Nat} (hq : q < 27) {Q : Option Value → px_H → Prop} {n : Int32} {d : Nat} : ∀ (k i : Nat) (F : Nat → Nat → Int32), N q = Int32.ofNat (i + k) → i + k ≤ px_lim q → (px_PW d pc_11 Q 40 [some (.ref (px_O q)), some (.int n), some (.int (Int32.ofNat (i + k)))] [] (px_CH Z N (va_up F q (px_zf (F q) i k)), [])) → px_PW d pc_11 Q 19 [some (.ref (px_O q)), some (.int n), some (.int (Int32.ofNat i))] [] (px_CH Z N F, [])
  | k, i, F, hN, hle, hk => by
    have hl := (px_lim_i hq).2
    refine px_PW.steps kt_11.2 2 rfl ?_
    refine px_PW.getf kt_11.2 rfl (ch_obj hq) rfl ?_
    refine px_PW.steps kt_11.2 1 rfl ?_
    refine px_PW.br (fun c0 => ?_) (fun c0 => ?_)
    · have c0 := of_decide_eq_true c0
      rw [hN, Int32.le_iff_toInt_le, px_ofn (by omega), px_ofn (by omega)] at c0
      have e : k = 0 := by omega
      subst e
      rw [px_zf_0, px_up_id] at hk
      exact hk
    · have c0 := of_decide_eq_false c0
      rw [hN, Int32.le_iff_toInt_le, px_ofn (by omega), px_ofn (by omega)] at c0
      obtain ⟨k', rfl⟩ : ∃ k', k = k' + 1 := ⟨k - 1, by omega⟩
      refine px_PW.steps kt_11.2 1 rfl ?_
      refine px_PW.getf kt_11.2 rfl (ch_obj hq) rfl ?_
      refine px_PW.steps kt_11.2 2 rfl ?_
      refine px_PW.ast kt_11.2 rfl (ch_arr hq) (px_inb_of (n := Int32.ofNat (px_lim q)) (by rw [Int32.le_iff_toInt_le, px_ofn (by omega), Int32.toInt_zero]; omega) (by rw [Int32.lt_iff_toInt_lt, px_ofn (by omega), px_ofn (by omega)]; omega) (Int.le_of_eq (px_lim_i hq).1)) ?_
      rw [ch_putF hq]
      refine px_PW.steps kt_11.2 2 rfl ?_
      have e1 : Int32.ofNat i + 1 = Int32.ofNat (i + 1) := (nI_succ i).symm
      have e2 : (Int32.ofNat i).toNatClampNeg = i := nI_clamp (by omega)
      have g := nb_fill_loop hq (Z := Z) (N := N) (Q := Q) (n := n) (d := d) k' (i + 1) (va_up F q (upd (F q) i 0)) (by rw [hN]; congr 1; omega) (by omega) (by
        rw [px_up_self, px_zf_s, px_up_up, show i + 1 + k' = i + (k' + 1) by omega]
        exact hk)
      rw [← e1] at g
      rw [e2]
      exact g
/-- how many numbers a row of a limit has that is filled with n zeros -/
def px_fz (n : Int32) (L : Nat) : Nat := min n.toInt.toNat L
theorem px_fz_eq (n : Int32) {q : Nat} (hq : q < 27) : (if (0 : Int32) < (if Int32.ofNat (px_lim q) < n then Int32.ofNat (px_lim q) else n) then (if Int32.ofNat (px_lim q) < n then Int32.ofNat (px_lim q) else n) else 0) = Int32.ofNat (px_fz n (px_lim q)) := by
  have h1 := px_lim_i hq
  have h2 : (Int32.ofNat (px_fz n (px_lim q))).toInt = (px_fz n (px_lim q) : Int) := px_ofn (by unfold px_fz; omega)
  apply Int32.toInt_inj.mp
  rw [h2]
  unfold px_fz
  by_cases a : Int32.ofNat (px_lim q) < n
  · rw [if_pos a]
    rw [Int32.lt_iff_toInt_lt, h1.1] at a
    by_cases b : (0 : Int32) < Int32.ofNat (px_lim q)
    · rw [if_pos b, h1.1]; omega
    · rw [if_neg b]
      rw [Int32.lt_iff_toInt_lt, h1.1, Int32.toInt_zero] at b
      rw [Int32.toInt_zero]; omega
  · rw [if_neg a]
    rw [Int32.lt_iff_toInt_lt, h1.1] at a
    by_cases b : (0 : Int32) < n
    · rw [if_pos b]
      rw [Int32.lt_iff_toInt_lt, Int32.toInt_zero] at b
      omega
    · rw [if_neg b]
      rw [Int32.lt_iff_toInt_lt, Int32.toInt_zero] at b
      rw [Int32.toInt_zero]; omega
theorem nb_fill {Z N : Nat → Int32} {F : Nat → Nat → Int32} {q : Nat} (hq : q < 27) (n : Int32) : px_PM 1 11 [.ref (px_O q), .int n] (px_CH Z N F, []) (fun r h' => r = none ∧ h' = (px_CH Z (upd N q (Int32.ofNat (px_fz n (px_lim q)))) (va_up F q (px_zf (F q) 0 (px_fz n (px_lim q)))), [])) := by
  refine px_PM.start (nL := 3) (code := pc_11) rfl rfl ?_
  refine px_PW.steps kt_11.2 4 rfl ?_
  refine px_PW.getf kt_11.2 rfl (ch_obj hq) rfl ?_
  refine px_PW.alen kt_11.2 rfl (ch_arr hq) ?_
  refine px_PW.steps kt_11.2 2 rfl ?_
  refine px_PW.putf kt_11.2 rfl (ch_obj hq) rfl ?_
  rw [show ∀ x : Int32, px_stn [Value.ref (px_O q + 1), Value.int (N q)] 1 (Value.int x) = [Value.ref (px_O q + 1), Value.int x] from fun _ => rfl, ch_putN hq]
  dsimp only
  rw [px_fz_eq n hq]
  refine px_PW.steps kt_11.2 2 rfl ?_
  refine nb_fill_loop hq (px_fz n (px_lim q)) 0 F (by rw [px_upd_self, Nat.zero_add]) (by unfold px_fz; omega) ?_
  exact px_PW.ret kt_11.2 rfl rfl ⟨rfl, rfl⟩
theorem px_str_ok {i n m : Int32} {L : Nat} (h : ¬ (i < 0 ∨ n < 0 ∨ m < n ∨ m - n < i)) (hl : m.toInt ≤ L) : 0 ≤ i ∧ 0 ≤ n ∧ i.toNatClampNeg + n.toNatClampNeg ≤ L := by
  have h1 := i32_nlt (fun q => h (Or.inl q))
  have h2 := i32_nlt (fun q => h (Or.inr (Or.inl q)))
  have h3 := i32_nlt (fun q => h (Or.inr (Or.inr (Or.inl q))))
  have h4 := i32_nlt (fun q => h (Or.inr (Or.inr (Or.inr q))))
  refine ⟨h1, h2, ?_⟩
  rw [Int32.le_iff_toInt_le, Int32.toInt_zero] at h1 h2
  rw [Int32.le_iff_toInt_le] at h3 h4
  have e : (m - n).toInt = m.toInt - n.toInt := by
    rw [Int32.toInt_sub]
    have h2 := Int32.toInt_lt m
    have h3 := Int32.le_toInt m
    exact Int.bmod_eq_of_le (by omega) (by omega)
  rw [e] at h4
  have e1 : i.toNatClampNeg = i.toInt.toNat := rfl
  have e2 : n.toNatClampNeg = n.toInt.toNat := rfl
  omega
theorem ch_isO {Z N : Nat → Int32} {F : Nat → Nat → Int32} {q : Nat} (hq : q < 27) : px_isO (px_CH Z N F, []) (px_O q) 1 = true := by
  unfold px_isO
  rw [ch_obj hq]
  rfl
theorem px_PW.acopy {d : Nat} {code : Nat → Option px_A} (hT : px_frT code) {Q : Option Value → px_H → Prop} {pc a b n0 n1 : Nat} {sp dp n : Int32} {f g : Nat → Int32} {lv : px_L} {r : List Value} {h : px_H} (hc : code pc = some px_acopy) (ha : px_arr h a = some (n0, f)) (hb : px_arr h b = some (n1, g)) (h1 : 0 ≤ sp) (h2 : 0 ≤ dp) (h3 : 0 ≤ n) (h4 : sp.toNatClampNeg + n.toNatClampNeg ≤ n0) (h5 : dp.toNatClampNeg + n.toNatClampNeg ≤ n1) (h8 : Nat.ble (px_cat r) 8 = true)
    (kk : px_PW d code Q (pc + 3) lv r (px_put h b (.inl (0, n1, .inl (va_cpy f g sp.toNatClampNeg dp.toNatClampNeg n.toNatClampNeg))))) : px_PW d code Q pc lv (.int n :: .int dp :: .ref b :: .int sp :: .ref a :: r) h := by
  refine px_PW.one hc (fun m => ?_) kk hT
  unfold px_acopy
  dsimp only
  rw [ha, hb]
  dsimp only
  rw [decide_eq_true h1, decide_eq_true h2, decide_eq_true h3, Nat.ble_eq_true_of_le h4, Nat.ble_eq_true_of_le h5, h8]
  rfl
theorem nb_take {Z N : Nat → Int32} {F : Nat → Nat → Int32} {q p : Nat} (hq : q < 27) (hp : p < 27) (i j n : Int32) (hl : (N p).toInt ≤ px_lim p) (hl2 : (N q).toInt ≤ px_lim q) : px_PM 2 12 [.ref (px_O q), .ref (px_O p), .int i, .int j, .int n] (px_CH Z N F, []) (fun r h' => r = none ∧ h' = (px_CH Z N (if (i < 0 ∨ n < 0 ∨ N p < n ∨ N p - n < i) ∨ (j < 0 ∨ n < 0 ∨ N q < n ∨ N q - n < j) then F else va_up F q (va_cpy (F p) (F q) i.toNatClampNeg j.toNatClampNeg n.toNatClampNeg)), [])) := by
  refine px_PM.start (nL := 5) (code := pc_12) rfl rfl ?_
  refine px_PW.steps kt_12.2 3 rfl ?_
  refine px_PW.callV kt_12.2 rfl rfl (ch_isO hp) rfl (nb_stretches hp i n) (by decide) (fun v h1 g => ?_)
  obtain ⟨rfl, rfl⟩ := g
  by_cases c : i < 0 ∨ n < 0 ∨ N p < n ∨ N p - n < i
  · rw [if_pos c]
    refine px_PW.steps kt_12.2 1 rfl ?_
    exact px_PW.ret kt_12.2 rfl rfl ⟨rfl, by rw [if_pos (Or.inl c)]⟩
  · rw [if_neg c]
    refine px_PW.steps kt_12.2 4 rfl ?_
    refine px_PW.callV kt_12.2 rfl rfl (ch_isO hq) rfl (nb_stretches hq j n) (by decide) (fun v h1 g => ?_)
    obtain ⟨rfl, rfl⟩ := g
    by_cases c2 : j < 0 ∨ n < 0 ∨ N q < n ∨ N q - n < j
    · rw [if_pos c2]
      refine px_PW.steps kt_12.2 1 rfl ?_
      exact px_PW.ret kt_12.2 rfl rfl ⟨rfl, by rw [if_pos (Or.inr c2)]⟩
    · rw [if_neg c2]
      refine px_PW.steps kt_12.2 2 rfl ?_
      refine px_PW.getf kt_12.2 rfl (ch_obj hp) rfl ?_
      refine px_PW.steps kt_12.2 2 rfl ?_
      refine px_PW.getf kt_12.2 rfl (ch_obj hq) rfl ?_
      refine px_PW.steps kt_12.2 2 rfl ?_
      have o1 := px_str_ok c hl
      have o2 := px_str_ok c2 hl2
      refine px_PW.acopy kt_12.2 rfl (ch_arr hp) (ch_arr hq) o1.1 o2.1 o1.2.1 o1.2.2 o2.2.2 rfl ?_
      rw [ch_putF hq]
      exact px_PW.ret kt_12.2 rfl rfl ⟨rfl, by rw [if_neg (fun z => z.elim c c2)]⟩
def px_ov (f g : Nat → Int32) (n : Nat) : Nat → Int32 := fun j => if j < n then f j else g j
theorem px_cpy_ov (f g : Nat → Int32) (n : Nat) : va_cpy f (px_zf g 0 n) 0 0 n = px_ov f g n := by
  funext j
  unfold va_cpy px_zf px_ov
  by_cases h : j < n
  · rw [if_pos (by omega), if_pos h]; congr 1; omega
  · rw [if_neg (by omega), if_neg (by omega), if_neg h]
theorem px_fz_id {n : Int32} {L : Nat} (h0 : 0 ≤ n) (hl : n.toInt ≤ L) : px_fz n L = n.toNatClampNeg ∧ Int32.ofNat n.toNatClampNeg = n := by
  have e1 : n.toNatClampNeg = n.toInt.toNat := rfl
  rw [Int32.le_iff_toInt_le, Int32.toInt_zero] at h0
  refine ⟨by unfold px_fz; omega, ?_⟩
  apply Int32.toInt_inj.mp
  have h2 := Int32.toInt_lt n
  have h3 : (Int32.ofNat n.toNatClampNeg).toInt = (n.toNatClampNeg : Int) := nI_toInt (by omega)
  rw [h3]
  omega
theorem px_upd_ne (f : Nat → Int32) {k j : Nat} (x : Int32) (h : j ≠ k) : upd f k x j = f j := by simp [upd, h]
theorem px_up_ne {α : Type} (f : Nat → α) {k j : Nat} (x : α) (h : j ≠ k) : va_up f k x j = f j := by simp [va_up, h]
theorem nb_copy {Z N : Nat → Int32} {F : Nat → Nat → Int32} {q p : Nat} (hq : q < 27) (hp : p < 27) (hne : p ≠ q) (h0 : 0 ≤ N p) (hl : (N p).toInt ≤ px_lim p) (hl2 : (N p).toInt ≤ px_lim q) : px_PM 3 13 [.ref (px_O q), .ref (px_O p)] (px_CH Z N F, []) (fun r h' => r = none ∧ h' = (px_CH Z (upd N q (N p)) (va_up F q (px_ov (F p) (F q) (N p).toNatClampNeg)), [])) := by
  refine px_PM.start (nL := 2) (code := pc_13) rfl rfl ?_
  refine px_PW.steps kt_13.2 2 rfl ?_
  refine px_PW.getf kt_13.2 rfl (ch_obj hp) rfl ?_
  refine px_PW.callV kt_13.2 rfl rfl (ch_isO hq) rfl (nb_fill hq (N p)) (by decide) (fun v h1 g => ?_)
  obtain ⟨rfl, rfl⟩ := g
  rw [(px_fz_id h0 hl2).1, (px_fz_id h0 hl2).2]
  refine px_PW.steps kt_13.2 5 rfl ?_
  refine px_PW.getf kt_13.2 rfl (ch_obj hq) rfl ?_
  rw [px_upd_self]
  have b0 : ¬ (0 : Int32) < 0 := by decide
  have b1 : ¬ N p < 0 := Int32.not_lt.mpr h0
  have b2 : ¬ N p < N p := Int32.not_lt.mpr (Int32.le_refl _)
  have b3 : ¬ N p - N p < 0 := by rw [Int32.sub_self]; exact b0
  have e : (if ((0 : Int32) < 0 ∨ N p < 0 ∨ upd N q (N p) p < N p ∨ upd N q (N p) p - N p < 0) ∨ ((0 : Int32) < 0 ∨ N p < 0 ∨ upd N q (N p) q < N p ∨ upd N q (N p) q - N p < 0) then va_up F q (px_zf (F q) 0 (N p).toNatClampNeg) else va_up (va_up F q (px_zf (F q) 0 (N p).toNatClampNeg)) q (va_cpy (va_up F q (px_zf (F q) 0 (N p).toNatClampNeg) p) (va_up F q (px_zf (F q) 0 (N p).toNatClampNeg) q) (0 : Int32).toNatClampNeg (0 : Int32).toNatClampNeg (N p).toNatClampNeg)) = va_up F q (px_ov (F p) (F q) (N p).toNatClampNeg) := by
    rw [px_upd_self, px_upd_ne N (N p) hne, px_up_self, px_up_ne F _ hne, px_up_up, if_neg (by simp only [b0, b1, b2, b3, or_self, not_false_eq_true])]
    exact congrArg (va_up F q) (px_cpy_ov (F p) (F q) _)
  refine px_PW.callV kt_13.2 rfl rfl (ch_isO hq) rfl (nb_take hq hp 0 0 (N p) (by rw [px_upd_ne N (N p) hne]; exact hl) (by rw [px_upd_self]; exact hl2)) (by decide) (fun v h1 g => ?_)
  obtain ⟨rfl, rfl⟩ := g
  exact px_PW.ret kt_13.2 rfl rfl ⟨rfl, by rw [e]⟩
theorem px_inb0 {i n : Int32} (h : ¬ (i < 0 ∨ n < 0)) : decide (0 ≤ i) = true ∧ decide (0 ≤ n) = true := by
  constructor
  · exact decide_eq_true (i32_nlt (fun q => h (Or.inl q)))
  · exact decide_eq_true (i32_nlt (fun q => h (Or.inr q)))
