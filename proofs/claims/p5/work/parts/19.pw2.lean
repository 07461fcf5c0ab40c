/-- k steps, calls by a callback -/
def px_stepsG (cb : px_C) (code : Nat → Option px_A) : Nat → Nat → px_L → List Value → px_H → Option (Nat × px_L × List Value × px_H)
  | 0, pc, lv, st, h => some (pc, lv, st, h)
  | k + 1, pc, lv, st, h => match code pc with
    | none => none
    | some act => match act cb pc lv st h with
      | some (.inl (pc', lv', st', h')) => px_stepsG cb code k pc' lv' st' h'
      | _ => none
theorem px_PW.oneG {d d0 n0 : Nat} {code : Nat → Option px_A} {Q : Option Value → px_H → Prop} {pc pc' : Nat} {lv lv' : px_L} {st st' : List Value} {h h' : px_H} {act : px_A} (hd : d0 ≤ d) (hc : code pc = some act) (hs : act (px_run px_codes d0 n0) pc lv st h = some (.inl (pc', lv', st', h'))) (k : px_PW d code Q pc' lv' st' h') (hT : px_frT code) : px_PW d code Q pc lv st h := by
  obtain ⟨n, v, h1, e1, e2⟩ := k
  refine ⟨max n0 n + 1, v, h1, ?_, e2⟩
  unfold px_loop
  rw [hc]
  dsimp only
  rw [px_act_mono hT hc (cb' := px_run px_codes d (max n0 n + 1)) (fun j as h r q => px_mono hd (show n0 ≤ max n0 n + 1 by omega) q) hs]
  exact (px_fr_loop (b := none) (X := []) hT (px_codes_fr none [] (Nat.le_refl d) (show n ≤ max n0 n + 1 by omega)) n (max n0 n) pc' lv' st' h' v h1 (by omega) trivial e1).1
theorem px_PW.stepsG {d d0 n0 : Nat} {code : Nat → Option px_A} (hd : d0 ≤ d) (hT : px_frT code) {Q : Option Value → px_H → Prop} : ∀ (k : Nat) {pc pc' : Nat} {lv lv' : px_L} {st st' : List Value} {h h' : px_H}, px_stepsG (px_run px_codes d0 n0) code k pc lv st h = some (pc', lv', st', h') → px_PW d code Q pc' lv' st' h' → px_PW d code Q pc lv st h
  | 0, _, _, _, _, _, _, _, _, hs, k => by cases hs; exact k
  | m + 1, pc, pc', lv, lv', st, st', h, h', hs, k => by
    unfold px_stepsG at hs
    split at hs
    · cases hs
    · next act hact =>
      split at hs
      · next pc1 lv1 st1 h1 ha => exact px_PW.oneG hd hact ha (px_PW.stepsG hd hT m hs k) hT
      · cases hs
theorem px_PW.ald {d : Nat} {code : Nat → Option px_A} (hT : px_frT code) {Q : Option Value → px_H → Prop} {pc a n : Nat} {i : Int32} {f : Nat → Int32} {lv : px_L} {r : List Value} {h : px_H} (hc : code pc = some px_iald) (ha : px_arr h a = some (n, f)) (hi : px_inb i n = true) (k : px_PW d code Q (pc + 1) lv (.int (f i.toNatClampNeg) :: r) h) : px_PW d code Q pc lv (.int i :: .ref a :: r) h := by
  refine px_PW.one hc (fun m => ?_) k hT
  unfold px_iald
  dsimp only
  rw [ha]
  dsimp only
  rw [hi]
  rfl
theorem px_PW.ast {d : Nat} {code : Nat → Option px_A} (hT : px_frT code) {Q : Option Value → px_H → Prop} {pc a n : Nat} {i x : Int32} {f : Nat → Int32} {lv : px_L} {r : List Value} {h : px_H} (hc : code pc = some px_iast) (ha : px_arr h a = some (n, f)) (hi : px_inb i n = true) (k : px_PW d code Q (pc + 1) lv r (px_put h a (.inl (0, n, .inl (upd f i.toNatClampNeg x))))) : px_PW d code Q pc lv (.int x :: .int i :: .ref a :: r) h := by
  refine px_PW.one hc (fun m => ?_) k hT
  unfold px_iast
  dsimp only
  rw [ha]
  dsimp only
  rw [hi]
  rfl
theorem px_PW.bin0 {d : Nat} {code : Nat → Option px_A} (hT : px_frT code) {Q : Option Value → px_H → Prop} {pc : Nat} {f : Int32 → Int32 → Int32} {x y : Int32} {lv : px_L} {r : List Value} {h : px_H} (hc : code pc = some (px_bin0 f)) (hy : ¬ y = 0) (k : px_PW d code Q (pc + 1) lv (.int (f x y) :: r) h) : px_PW d code Q pc lv (.int y :: .int x :: r) h := by
  refine px_PW.one hc (fun m => ?_) k hT
  unfold px_bin0
  dsimp only
  rw [decide_eq_false hy]
  rfl
theorem px_inb_of {i n : Int32} {L : Nat} (h0 : 0 ≤ i) (h1 : i < n) (h2 : n.toInt ≤ L) : px_inb i L = true := by
  unfold px_inb
  rw [decide_eq_true h0, Bool.true_and, px_blt]
  rw [Int32.le_iff_toInt_le, Int32.toInt_zero] at h0
  rw [Int32.lt_iff_toInt_lt] at h1
  have e : i.toNatClampNeg = i.toInt.toNat := rfl
  omega
theorem i32_nlt {a b : Int32} (h : ¬ a < b) : b ≤ a := Int32.not_lt.mp h
theorem i32_nle {a b : Int32} (h : ¬ a ≤ b) : b < a := Int32.not_le.mp h
theorem cm_117 (v lo hi : Int32) (h : px_H) : px_PM 1 117 [.int v, .int lo, .int hi] h (fun r h' => r = some (.int (if lo ≤ v ∧ v ≤ hi then 1 else 0)) ∧ h' = h) := by
  refine px_PM.start (nL := 3) (code := pc_117) rfl rfl ?_
  refine px_PW.steps kt_117.2 3 rfl ?_
  refine px_PW.br (fun c0 => ?_) (fun c0 => ?_)
  · have c0 := of_decide_eq_true c0
    refine px_PW.steps kt_117.2 1 rfl ?_
    refine px_PW.ret kt_117.2 rfl rfl ?_
    exact ⟨by rw [if_neg (fun q => absurd q.1 (Int32.not_le.mpr c0))], rfl⟩
  · have c0 := i32_nlt (of_decide_eq_false c0)
    refine px_PW.steps kt_117.2 3 rfl ?_
    refine px_PW.br (fun c1 => ?_) (fun c1 => ?_)
    · have c1 := of_decide_eq_true c1
      refine px_PW.steps kt_117.2 1 rfl ?_
      refine px_PW.ret kt_117.2 rfl rfl ?_
      exact ⟨by rw [if_neg (fun q => absurd q.2 (Int32.not_le.mpr c1))], rfl⟩
    · have c1 := i32_nlt (of_decide_eq_false c1)
      refine px_PW.steps kt_117.2 2 rfl ?_
      refine px_PW.ret kt_117.2 rfl rfl ?_
      exact ⟨by rw [if_pos ⟨c0, c1⟩], rfl⟩
def px_Ol : List Nat := [2, 4, 6, 8, 10, 12, 14, 16, 18, 21, 23, 25, 27, 29, 31, 33, 35, 37, 39, 43, 46, 49, 52, 56, 58, 61, 64]
def px_O (q : Nat) : Nat := px_Ol.getD q 0
def px_liml : List Nat := [7, 6, 6, 6, 6, 60, 60, 60, 24, 7, 6, 6, 6, 6, 60, 60, 60, 24, 7, 24, 24, 24, 24, 60, 60, 60, 30]
def px_lim (q : Nat) : Nat := px_liml.getD q 0
theorem ch_obj {Z N : Nat → Int32} {F : Nat → Nat → Int32} {q : Nat} (hq : q < 27) : px_cell (px_CH Z N F, []) (px_O q) = some (.inr (1, [.ref (px_O q + 1), .int (N q)])) := by
  match q, hq with
  | 0, _ => rfl
  | 1, _ => rfl
  | 2, _ => rfl
  | 3, _ => rfl
  | 4, _ => rfl
  | 5, _ => rfl
  | 6, _ => rfl
  | 7, _ => rfl
  | 8, _ => rfl
  | 9, _ => rfl
  | 10, _ => rfl
  | 11, _ => rfl
  | 12, _ => rfl
  | 13, _ => rfl
  | 14, _ => rfl
  | 15, _ => rfl
  | 16, _ => rfl
  | 17, _ => rfl
  | 18, _ => rfl
  | 19, _ => rfl
  | 20, _ => rfl
  | 21, _ => rfl
  | 22, _ => rfl
  | 23, _ => rfl
  | 24, _ => rfl
  | 25, _ => rfl
  | 26, _ => rfl
  | q + 27, h => exact absurd h (by omega)
theorem ch_arr {Z N : Nat → Int32} {F : Nat → Nat → Int32} {q : Nat} (hq : q < 27) : px_arr (px_CH Z N F, []) (px_O q + 1) = some (px_lim q, F q) := by
  match q, hq with
  | 0, _ => rfl
  | 1, _ => rfl
  | 2, _ => rfl
  | 3, _ => rfl
  | 4, _ => rfl
  | 5, _ => rfl
  | 6, _ => rfl
  | 7, _ => rfl
  | 8, _ => rfl
  | 9, _ => rfl
  | 10, _ => rfl
  | 11, _ => rfl
  | 12, _ => rfl
  | 13, _ => rfl
  | 14, _ => rfl
  | 15, _ => rfl
  | 16, _ => rfl
  | 17, _ => rfl
  | 18, _ => rfl
  | 19, _ => rfl
  | 20, _ => rfl
  | 21, _ => rfl
  | 22, _ => rfl
  | 23, _ => rfl
  | 24, _ => rfl
  | 25, _ => rfl
  | 26, _ => rfl
  | q + 27, h => exact absurd h (by omega)
theorem ch_putN {Z N : Nat → Int32} {F : Nat → Nat → Int32} {q : Nat} (hq : q < 27) (v : Int32) : px_put (px_CH Z N F, []) (px_O q) (.inr (1, [.ref (px_O q + 1), .int v])) = (px_CH Z (upd N q v) F, []) := by
  match q, hq with
  | 0, _ => rfl
  | 1, _ => rfl
  | 2, _ => rfl
  | 3, _ => rfl
  | 4, _ => rfl
  | 5, _ => rfl
  | 6, _ => rfl
  | 7, _ => rfl
  | 8, _ => rfl
  | 9, _ => rfl
  | 10, _ => rfl
  | 11, _ => rfl
  | 12, _ => rfl
  | 13, _ => rfl
  | 14, _ => rfl
  | 15, _ => rfl
  | 16, _ => rfl
  | 17, _ => rfl
  | 18, _ => rfl
  | 19, _ => rfl
  | 20, _ => rfl
  | 21, _ => rfl
  | 22, _ => rfl
  | 23, _ => rfl
  | 24, _ => rfl
  | 25, _ => rfl
  | 26, _ => rfl
  | q + 27, h => exact absurd h (by omega)
theorem ch_putF {Z N : Nat → Int32} {F : Nat → Nat → Int32} {q : Nat} (hq : q < 27) (f : Nat → Int32) : px_put (px_CH Z N F, []) (px_O q + 1) (.inl (0, px_lim q, .inl f)) = (px_CH Z N (va_up F q f), []) := by
  match q, hq with
  | 0, _ => rfl
  | 1, _ => rfl
  | 2, _ => rfl
  | 3, _ => rfl
  | 4, _ => rfl
  | 5, _ => rfl
  | 6, _ => rfl
  | 7, _ => rfl
  | 8, _ => rfl
  | 9, _ => rfl
  | 10, _ => rfl
  | 11, _ => rfl
  | 12, _ => rfl
  | 13, _ => rfl
  | 14, _ => rfl
  | 15, _ => rfl
  | 16, _ => rfl
  | 17, _ => rfl
  | 18, _ => rfl
  | 19, _ => rfl
  | 20, _ => rfl
  | 21, _ => rfl
  | 22, _ => rfl
  | 23, _ => rfl
  | 24, _ => rfl
  | 25, _ => rfl
  | 26, _ => rfl
  | q + 27, h => exact absurd h (by omega)
theorem px_nt {b : Bool} (h : (!b) = true) : b = false := by cases b <;> first | rfl | cases h
theorem px_nf {b : Bool} (h : (!b) = false) : b = true := by cases b <;> first | rfl | cases h
theorem px_PW.getf {d : Nat} {code : Nat → Option px_A} (hT : px_frT code) {Q : Option Value → px_H → Prop} {pc a ci k : Nat} {fs : List Value} {v : Value} {lv : px_L} {r : List Value} {h : px_H} (hc : code pc = some (px_getf ci k)) (hcell : px_cell h a = some (.inr (ci, fs))) (hv : px_nth fs k = some v) (kk : px_PW d code Q (pc + 3) lv (v :: r) h) : px_PW d code Q pc lv (.ref a :: r) h := by
  refine px_PW.one hc (fun m => ?_) kk hT
  unfold px_getf
  dsimp only
  rw [hcell]
  dsimp only
  rw [Nat.beq_refl, hv]
  rfl
theorem px_PW.putf {d : Nat} {code : Nat → Option px_A} (hT : px_frT code) {Q : Option Value → px_H → Prop} {z : Bool} {pc a ci k : Nat} {fs : List Value} {x : Int32} {lv : px_L} {r : List Value} {h : px_H} (hc : code pc = some (px_putf z ci k)) (hcell : px_cell h a = some (.inr (ci, fs))) (hk : (Nat.blt k fs.length && (z || x == 0 || x == 1)) = true) (kk : px_PW d code Q (pc + 3) lv r (px_put h a (.inr (ci, px_stn fs k (.int x))))) : px_PW d code Q pc lv (.int x :: .ref a :: r) h := by
  refine px_PW.one hc (fun m => ?_) kk hT
  unfold px_putf
  dsimp only
  rw [hcell]
  dsimp only
  rw [Nat.beq_refl, Bool.true_and, hk]
  rfl
theorem px_PW.alen {d : Nat} {code : Nat → Option px_A} (hT : px_frT code) {Q : Option Value → px_H → Prop} {pc a n : Nat} {f : Nat → Int32} {lv : px_L} {r : List Value} {h : px_H} (hc : code pc = some px_alen) (ha : px_arr h a = some (n, f)) (kk : px_PW d code Q (pc + 1) lv (.int (Int32.ofNat n) :: r) h) : px_PW d code Q pc lv (.ref a :: r) h := by
  refine px_PW.one hc (fun m => ?_) kk hT
  unfold px_alen
  dsimp only
  rw [px_arr_r ha]
  rfl
