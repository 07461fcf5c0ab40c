theorem cc_isKM (k : Int32) (h : px_H) : px_PM 1 91 [.int k] h (fun r h' => r = some (.int (if k < 0 ∨ 69 < k then 0 else 1)) ∧ h' = h) := by
  refine px_PM.start (nL := 1) (code := pc_91) rfl rfl ?_
  refine px_PW.steps kt_91.2 2 rfl ?_
  refine px_PW.br (fun c0 => ?_) (fun c0 => ?_)
  · have c0 := of_decide_eq_true c0
    refine px_PW.steps kt_91.2 1 rfl ?_
    refine px_PW.ret kt_91.2 rfl rfl ?_
    exact ⟨by simp [*], rfl⟩
  · have c0 := of_decide_eq_false c0
    refine px_PW.steps kt_91.2 3 rfl ?_
    refine px_PW.br (fun c1 => ?_) (fun c1 => ?_)
    · have c1 := of_decide_eq_true c1
      refine px_PW.steps kt_91.2 1 rfl ?_
      refine px_PW.ret kt_91.2 rfl rfl ?_
      exact ⟨by simp [*], rfl⟩
    · have c1 := of_decide_eq_false c1
      refine px_PW.steps kt_91.2 2 rfl ?_
      refine px_PW.ret kt_91.2 rfl rfl ?_
      exact ⟨by simp [*], rfl⟩
theorem cc_isFrom (k : Int32) (h : px_H) : px_PM 1 92 [.int k] h (fun r h' => r = some (.int (if k < 0 ∨ 4000 < k then 0 else 1)) ∧ h' = h) := by
  refine px_PM.start (nL := 1) (code := pc_92) rfl rfl ?_
  refine px_PW.steps kt_92.2 2 rfl ?_
  refine px_PW.br (fun c0 => ?_) (fun c0 => ?_)
  · have c0 := of_decide_eq_true c0
    refine px_PW.steps kt_92.2 1 rfl ?_
    refine px_PW.ret kt_92.2 rfl rfl ?_
    exact ⟨by simp [*], rfl⟩
  · have c0 := of_decide_eq_false c0
    refine px_PW.steps kt_92.2 3 rfl ?_
    refine px_PW.br (fun c1 => ?_) (fun c1 => ?_)
    · have c1 := of_decide_eq_true c1
      refine px_PW.steps kt_92.2 1 rfl ?_
      refine px_PW.ret kt_92.2 rfl rfl ?_
      exact ⟨by simp [*], rfl⟩
    · have c1 := of_decide_eq_false c1
      refine px_PW.steps kt_92.2 2 rfl ?_
      refine px_PW.ret kt_92.2 rfl rfl ?_
      exact ⟨by simp [*], rfl⟩
theorem cc_isUse (k : Int32) (h : px_H) : px_PM 1 93 [.int k] h (fun r h' => r = some (.int (if k = 0 ∨ k = 1 then 1 else 0)) ∧ h' = h) := by
  refine px_PM.start (nL := 1) (code := pc_93) rfl rfl ?_
  refine px_PW.steps kt_93.2 2 rfl ?_
  refine px_PW.br (fun c0 => ?_) (fun c0 => ?_)
  · have c0 := of_decide_eq_true c0
    refine px_PW.steps kt_93.2 2 rfl ?_
    refine px_PW.ret kt_93.2 rfl rfl ?_
    exact ⟨by simp [*], rfl⟩
  · have c0 := of_decide_eq_false c0
    refine px_PW.steps kt_93.2 3 rfl ?_
    refine px_PW.br (fun c1 => ?_) (fun c1 => ?_)
    · have c1 := of_decide_eq_false (px_nt c1)
      refine px_PW.steps kt_93.2 1 rfl ?_
      refine px_PW.ret kt_93.2 rfl rfl ?_
      exact ⟨by simp [*], rfl⟩
    · have c1 := of_decide_eq_true (px_nf c1)
      refine px_PW.steps kt_93.2 2 rfl ?_
      refine px_PW.ret kt_93.2 rfl rfl ?_
      exact ⟨by simp [*], rfl⟩
theorem cc_quot (a b : Int32) (h : px_H) : px_PM 1 96 [.int a, .int b] h (fun r h' => r = some (.int (if b = 0 then 0 else a / b)) ∧ h' = h) := by
  refine px_PM.start (nL := 2) (code := pc_96) rfl rfl ?_
  refine px_PW.steps kt_96.2 2 rfl ?_
  refine px_PW.br (fun c0 => ?_) (fun c0 => ?_)
  · have c0 := of_decide_eq_false (px_nt c0)
    refine px_PW.steps kt_96.2 2 rfl ?_
    refine px_PW.bin0 kt_96.2 rfl c0 ?_
    refine px_PW.ret kt_96.2 rfl rfl ?_
    exact ⟨by simp [*], rfl⟩
  · have c0 := of_decide_eq_true (px_nf c0)
    refine px_PW.steps kt_96.2 2 rfl ?_
    refine px_PW.ret kt_96.2 rfl rfl ?_
    exact ⟨by simp [*], rfl⟩
theorem cc_rest (a b : Int32) (h : px_H) : px_PM 1 97 [.int a, .int b] h (fun r h' => r = some (.int (if b = 0 then 0 else a - a / b * b)) ∧ h' = h) := by
  refine px_PM.start (nL := 2) (code := pc_97) rfl rfl ?_
  refine px_PW.steps kt_97.2 2 rfl ?_
  refine px_PW.br (fun c0 => ?_) (fun c0 => ?_)
  · have c0 := of_decide_eq_false (px_nt c0)
    refine px_PW.steps kt_97.2 2 rfl ?_
    refine px_PW.bin0 kt_97.2 rfl c0 ?_
    refine px_PW.ret kt_97.2 rfl rfl ?_
    exact ⟨by simp [*], rfl⟩
  · have c0 := of_decide_eq_true (px_nf c0)
    refine px_PW.steps kt_97.2 2 rfl ?_
    refine px_PW.ret kt_97.2 rfl rfl ?_
    exact ⟨by simp [*], rfl⟩
theorem cc_truth (b : Int32) (h : px_H) : px_PM 1 24 [.int b] h (fun r h' => r = some (.int (if b = 0 then 0 else 1)) ∧ h' = h) := by
  refine px_PM.start (nL := 1) (code := pc_24) rfl rfl ?_
  refine px_PW.steps kt_24.2 2 rfl ?_
  refine px_PW.br (fun c0 => ?_) (fun c0 => ?_)
  · have c0 := of_decide_eq_true c0
    refine px_PW.steps kt_24.2 1 rfl ?_
    refine px_PW.ret kt_24.2 rfl rfl ?_
    exact ⟨by simp [*], rfl⟩
  · have c0 := of_decide_eq_false c0
    refine px_PW.steps kt_24.2 2 rfl ?_
    refine px_PW.ret kt_24.2 rfl rfl ?_
    exact ⟨by simp [*], rfl⟩
theorem cc_within (v lo hi : Int32) (h : px_H) : px_PM 1 98 [.int v, .int lo, .int hi] h (fun r h' => r = some (.int (if lo < (if v < hi then v else hi) then (if v < hi then v else hi) else lo)) ∧ h' = h) := by
  refine px_PM.start (nL := 3) (code := pc_98) rfl rfl ?_
  refine px_PW.steps kt_98.2 5 rfl ?_
  exact px_PW.ret kt_98.2 rfl rfl ⟨rfl, rfl⟩
theorem px_k7 {N : Nat → Int32} (h0 : N 0 = 7) {k : Nat} (hk : k < 7) (f : Nat → Int32) : (if Int32.ofNat k < 0 ∨ N 0 ≤ Int32.ofNat k then 0 else f (Int32.ofNat k).toNatClampNeg) = f k := by
  rw [h0]
  match k, hk with
  | 0, _ => rfl
  | 1, _ => rfl
  | 2, _ => rfl
  | 3, _ => rfl
  | 4, _ => rfl
  | 5, _ => rfl
  | 6, _ => rfl
  | k + 7, h => exact absurd h (by omega)
theorem px_l7 {x : Int32} (h0 : x = 7) : x.toInt ≤ 7 := by rw [h0]; decide +kernel
theorem cc_is {Z N : Nat → Int32} {F : Nat → Nat → Int32} (h0 : N 0 = 7) (k : Nat) (hk : k < 7) : px_PM 2 87 [.ref 0, .int (Int32.ofNat k)] (px_CH Z N F, []) (fun r h' => r = some (.int (F 0 k)) ∧ h' = (px_CH Z N F, [])) := by
  refine px_PM.start (nL := 2) (code := pc_87) rfl rfl ?_
  refine px_PW.steps kt_87.2 4 rfl ?_
  refine px_PW.callV kt_87.2 rfl rfl rfl rfl (nb_get (q := 0) (by decide) (Int32.ofNat k) (px_l7 h0)) (by decide) (fun v h1 g => ?_)
  obtain ⟨rfl, rfl⟩ := g
  rw [px_k7 h0 hk]
  exact px_PW.ret kt_87.2 rfl rfl ⟨rfl, rfl⟩
theorem cc_isThing {Z N : Nat → Int32} {F : Nat → Nat → Int32} (t : Int32) : px_PM 2 88 [.ref 0, .int t] (px_CH Z N F, []) (fun r h' => r = some (.int (if t < 0 ∨ N 1 ≤ t then 0 else 1)) ∧ h' = (px_CH Z N F, [])) := by
  refine px_PM.start (nL := 2) (code := pc_88) rfl rfl ?_
  refine px_PW.steps kt_88.2 4 rfl ?_
  refine px_PW.callV kt_88.2 rfl rfl rfl rfl (nb_stands (q := 1) (by decide) t) (by decide) (fun v h1 g => ?_)
  obtain ⟨rfl, rfl⟩ := g
  by_cases c : t < 0 ∨ N 1 ≤ t
  · rw [if_pos c]
    exact px_PW.ret kt_88.2 rfl rfl ⟨rfl, rfl⟩
  · rw [if_neg c]
    exact px_PW.ret kt_88.2 rfl rfl ⟨rfl, rfl⟩
theorem px_k18 {x : Int32} (h0 : x = 7) {k : Nat} (hk : k < 7) : ¬ (Int32.ofNat k < 0 ∨ x ≤ Int32.ofNat k) ∧ (Int32.ofNat k).toNatClampNeg = k := by
  rw [h0]
  match k, hk with
  | 0, _ => exact ⟨by decide +kernel, rfl⟩
  | 1, _ => exact ⟨by decide +kernel, rfl⟩
  | 2, _ => exact ⟨by decide +kernel, rfl⟩
  | 3, _ => exact ⟨by decide +kernel, rfl⟩
  | 4, _ => exact ⟨by decide +kernel, rfl⟩
  | 5, _ => exact ⟨by decide +kernel, rfl⟩
  | 6, _ => exact ⟨by decide +kernel, rfl⟩
  | k + 7, h => exact absurd h (by omega)
/-- an ERROR: counted, and LOW less k -/
theorem cc_error {Z N : Nat → Int32} {F : Nat → Nat → Int32} (h0 : N 18 = 7) (k : Nat) (hk : k < 7) : px_PM 2 86 [.ref 0, .int (Int32.ofNat k)] (px_CH Z N F, []) (fun r h' => r = some (.int (-1000000000 - Int32.ofNat k)) ∧ h' = (px_CH Z N (va_up F 18 (upd (F 18) k (F 18 k + 1))), [])) := by
  refine px_PM.start (nL := 2) (code := pc_86) rfl rfl ?_
  refine px_PW.steps kt_86.2 6 rfl ?_
  refine px_PW.callV kt_86.2 rfl rfl rfl rfl (nb_get (q := 18) (by decide) (Int32.ofNat k) (px_l7 h0)) (by decide) (fun v h1 g => ?_)
  obtain ⟨rfl, rfl⟩ := g
  rw [if_neg (px_k18 h0 hk).1, (px_k18 h0 hk).2]
  refine px_PW.steps kt_86.2 2 rfl ?_
  refine px_PW.callV kt_86.2 rfl rfl rfl rfl (nb_set (q := 18) (by decide) (Int32.ofNat k) (F 18 k + 1) (px_l7 h0)) (by decide) (fun v h1 g => ?_)
  obtain ⟨rfl, rfl⟩ := g
  rw [if_neg (px_k18 h0 hk).1, (px_k18 h0 hk).2]
  refine px_PW.steps kt_86.2 3 rfl ?_
  exact px_PW.ret kt_86.2 rfl rfl ⟨rfl, rfl⟩
