/-! part 25.px2 -/
section
theorem px_PW.at {d : Nat} {code : Nat → Option px_A} {Q : Option Value → px_H → Prop} {pc pc' : Nat} {lv : px_L} {st : List Value} {h : px_H} (e : pc = pc') (k : px_PW d code Q pc' lv st h) : px_PW d code Q pc lv st h := by rw [e]; exact k
theorem px_b1z {P : Prop} {i : Decidable P} (h : @ite Int32 P i 1 0 = 0) : ¬ P := fun q => by rw [if_pos q] at h; exact absurd h (by decide)
theorem px_b1n {P : Prop} {i : Decidable P} (h : ¬ (@ite Int32 P i 1 0 = 0)) : P := Decidable.byContradiction (fun q => h (if_neg q))
theorem px_b0z {P : Prop} {i : Decidable P} (h : @ite Int32 P i 0 1 = 0) : P := Decidable.byContradiction (fun q => by rw [if_neg q] at h; exact absurd h (by decide))
theorem px_b0n {P : Prop} {i : Decidable P} (h : ¬ (@ite Int32 P i 0 1 = 0)) : ¬ P := fun q => h (if_pos q)
theorem px_zb1 {P : Prop} {i : Decidable P} : ((@ite Int32 P i 1 0) == 0 || (@ite Int32 P i 1 0) == 1) = true := by split <;> rfl
theorem px_zb0 {P : Prop} {i : Decidable P} : ((@ite Int32 P i 0 1) == 0 || (@ite Int32 P i 0 1) == 1) = true := by split <;> rfl
theorem px_PW.retB {d : Nat} {code : Nat → Option px_A} (hT : px_frT code) {Q : Option Value → px_H → Prop} {pc : Nat} {lv : px_L} {x : Int32} {h : px_H} (hc : code pc = some px_zret) (hx : (x == 0 || x == 1) = true) (hQ : Q (some (.int x)) h) : px_PW d code Q pc lv [.int x] h := by
  refine px_PW.ret hT hc ?_ hQ
  unfold px_zret
  dsimp only
  rw [hx]
  rfl
theorem px_i_of {x y : Int32} {k : Int} (h : x.toInt = k) (hk : y.toInt = k) : x = y := Int32.toInt_inj.mp (h.trans hk.symm)
theorem px_sw_d {lo : Int} {ts : List Nat} {d : Nat} {x : Int} (h : ∀ y : Int, lo ≤ y → y < lo + ts.length → ¬ (x = y) ∨ px_nth ts (y - lo).toNat = some d) : px_sw lo ts d x = d := by
  unfold px_sw
  by_cases c : x < lo
  · rw [decide_eq_true c]; rfl
  · rw [decide_eq_false c]
    have nn : ∀ (l : List Nat) (n : Nat), l.length ≤ n → px_nth l n = none := by
      intro l
      induction l with
      | nil => intro n _; rfl
      | cons a r ih =>
        intro n hn
        cases n with
        | zero => simp at hn
        | succ n => exact ih n (by simpa using hn)
    by_cases c2 : x < lo + ts.length
    · rcases h x (Int.not_lt.mp c) c2 with h1 | h1
      · exact absurd rfl h1
      · rw [h1]; rfl
    · rw [nn ts _ (by omega)]; rfl
theorem px_inbN {n L : Nat} (h : n < L) (hL : L ≤ 400) : px_inb (nI n) L = true := by
  unfold px_inb
  rw [decide_eq_true (nI_pos' (by omega)), Bool.true_and, nI_clamp (by omega), px_blt]
  exact h
/-- a row of numbers read at a place known as a natural number -/
theorem px_PW.aldN {d : Nat} {code : Nat → Option px_A} (hT : px_frT code) {Q : Option Value → px_H → Prop} {pc a L n : Nat} {i : Int32} {f : Nat → Int32} {lv : px_L} {r : List Value} {h : px_H} (hc : code pc = some px_iald) (ha : px_arr h a = some (L, f)) (hi : i = nI n) (hn : n < L) (k : px_PW d code Q (pc + 1) lv (.int (f n) :: r) h) (hL : L ≤ 400 := by decide) : px_PW d code Q pc lv (.int i :: .ref a :: r) h := by
  subst hi
  refine px_PW.ald hT hc ha (px_inbN hn hL) ?_
  rw [nI_clamp (by omega)]
  exact k
theorem px_PW.astN {d : Nat} {code : Nat → Option px_A} (hT : px_frT code) {Q : Option Value → px_H → Prop} {pc a L n : Nat} {i x : Int32} {f : Nat → Int32} {lv : px_L} {r : List Value} {h : px_H} (hc : code pc = some px_iast) (ha : px_arr h a = some (L, f)) (hi : i = nI n) (hn : n < L) (k : px_PW d code Q (pc + 1) lv r (px_put h a (.inl (0, L, .inl (upd f n x))))) (hL : L ≤ 400 := by decide) : px_PW d code Q pc lv (.int x :: .int i :: .ref a :: r) h := by
  subst hi
  refine px_PW.ast hT hc ha (px_inbN hn hL) ?_
  rw [nI_clamp (by omega)]
  exact k
theorem mo_0 {d : Nat} {code : Nat → Option px_A} (hT : px_frT code) {Q : Option Value → px_H → Prop} {pc : Nat} {x : Int32} {lv : px_L} {r : List Value} {Z : Nat → Int32} {F : Nat → Nat → Int32} (hc : code pc = some (px_putf true 8 2)) (kk : px_PW d code Q (pc + 3) lv r ([], px_MH (upd Z 0 x) F)) : px_PW d code Q pc lv (.int x :: .ref 1000 :: r) ([], px_MH Z F) := px_PW.putf hT hc rfl rfl kk
theorem mo_1 {d : Nat} {code : Nat → Option px_A} (hT : px_frT code) {Q : Option Value → px_H → Prop} {pc : Nat} {x : Int32} {lv : px_L} {r : List Value} {Z : Nat → Int32} {F : Nat → Nat → Int32} (hc : code pc = some (px_putf true 8 6)) (kk : px_PW d code Q (pc + 3) lv r ([], px_MH (upd Z 1 x) F)) : px_PW d code Q pc lv (.int x :: .ref 1000 :: r) ([], px_MH Z F) := px_PW.putf hT hc rfl rfl kk
theorem mo_2 {d : Nat} {code : Nat → Option px_A} (hT : px_frT code) {Q : Option Value → px_H → Prop} {pc : Nat} {x : Int32} {lv : px_L} {r : List Value} {Z : Nat → Int32} {F : Nat → Nat → Int32} (hc : code pc = some (px_putf true 8 7)) (kk : px_PW d code Q (pc + 3) lv r ([], px_MH (upd Z 2 x) F)) : px_PW d code Q pc lv (.int x :: .ref 1000 :: r) ([], px_MH Z F) := px_PW.putf hT hc rfl rfl kk
theorem mo_3 {d : Nat} {code : Nat → Option px_A} (hT : px_frT code) {Q : Option Value → px_H → Prop} {pc : Nat} {x : Int32} {lv : px_L} {r : List Value} {Z : Nat → Int32} {F : Nat → Nat → Int32} (hc : code pc = some (px_putf true 8 8)) (kk : px_PW d code Q (pc + 3) lv r ([], px_MH (upd Z 3 x) F)) : px_PW d code Q pc lv (.int x :: .ref 1000 :: r) ([], px_MH Z F) := px_PW.putf hT hc rfl rfl kk
theorem mo_4 {d : Nat} {code : Nat → Option px_A} (hT : px_frT code) {Q : Option Value → px_H → Prop} {pc : Nat} {x : Int32} {lv : px_L} {r : List Value} {Z : Nat → Int32} {F : Nat → Nat → Int32} (hc : code pc = some (px_putf true 8 9)) (kk : px_PW d code Q (pc + 3) lv r ([], px_MH (upd Z 4 x) F)) : px_PW d code Q pc lv (.int x :: .ref 1000 :: r) ([], px_MH Z F) := px_PW.putf hT hc rfl rfl kk
theorem mo_5 {d : Nat} {code : Nat → Option px_A} (hT : px_frT code) {Q : Option Value → px_H → Prop} {pc : Nat} {x : Int32} {lv : px_L} {r : List Value} {Z : Nat → Int32} {F : Nat → Nat → Int32} (hc : code pc = some (px_putf true 8 15)) (kk : px_PW d code Q (pc + 3) lv r ([], px_MH (upd Z 5 x) F)) : px_PW d code Q pc lv (.int x :: .ref 1000 :: r) ([], px_MH Z F) := px_PW.putf hT hc rfl rfl kk
theorem mo_6 {d : Nat} {code : Nat → Option px_A} (hT : px_frT code) {Q : Option Value → px_H → Prop} {pc : Nat} {x : Int32} {lv : px_L} {r : List Value} {Z : Nat → Int32} {F : Nat → Nat → Int32} (hc : code pc = some (px_putf true 8 16)) (kk : px_PW d code Q (pc + 3) lv r ([], px_MH (upd Z 6 x) F)) : px_PW d code Q pc lv (.int x :: .ref 1000 :: r) ([], px_MH Z F) := px_PW.putf hT hc rfl rfl kk
theorem mo_7 {d : Nat} {code : Nat → Option px_A} (hT : px_frT code) {Q : Option Value → px_H → Prop} {pc : Nat} {x : Int32} {lv : px_L} {r : List Value} {Z : Nat → Int32} {F : Nat → Nat → Int32} (hc : code pc = some (px_putf true 8 18)) (kk : px_PW d code Q (pc + 3) lv r ([], px_MH (upd Z 7 x) F)) : px_PW d code Q pc lv (.int x :: .ref 1000 :: r) ([], px_MH Z F) := px_PW.putf hT hc rfl rfl kk
theorem mo_8 {d : Nat} {code : Nat → Option px_A} (hT : px_frT code) {Q : Option Value → px_H → Prop} {pc : Nat} {x : Int32} {lv : px_L} {r : List Value} {Z : Nat → Int32} {F : Nat → Nat → Int32} (hx : (x == 0 || x == 1) = true) (hc : code pc = some (px_putf false 8 19)) (kk : px_PW d code Q (pc + 3) lv r ([], px_MH (upd Z 8 x) F)) : px_PW d code Q pc lv (.int x :: .ref 1000 :: r) ([], px_MH Z F) := px_PW.putf hT hc rfl (by rw [Bool.false_or, hx]; rfl) kk
theorem ms_0 {d : Nat} {code : Nat → Option px_A} (hT : px_frT code) {Q : Option Value → px_H → Prop} {pc n : Nat} {i x : Int32} {lv : px_L} {r : List Value} {Z : Nat → Int32} {F : Nat → Nat → Int32} (hc : code pc = some px_iast) (hi : i = nI n) (hn : n < 370) (kk : px_PW d code Q (pc + 1) lv r ([], px_MH Z (va_up F 0 (upd (F 0) n x)))) : px_PW d code Q pc lv (.int x :: .int i :: .ref 1001 :: r) ([], px_MH Z F) := px_PW.astN hT hc rfl hi hn kk
theorem ms_1 {d : Nat} {code : Nat → Option px_A} (hT : px_frT code) {Q : Option Value → px_H → Prop} {pc n : Nat} {i x : Int32} {lv : px_L} {r : List Value} {Z : Nat → Int32} {F : Nat → Nat → Int32} (hc : code pc = some px_iast) (hi : i = nI n) (hn : n < 370) (kk : px_PW d code Q (pc + 1) lv r ([], px_MH Z (va_up F 1 (upd (F 1) n x)))) : px_PW d code Q pc lv (.int x :: .int i :: .ref 1002 :: r) ([], px_MH Z F) := px_PW.astN hT hc rfl hi hn kk
theorem ms_2 {d : Nat} {code : Nat → Option px_A} (hT : px_frT code) {Q : Option Value → px_H → Prop} {pc n : Nat} {i x : Int32} {lv : px_L} {r : List Value} {Z : Nat → Int32} {F : Nat → Nat → Int32} (hc : code pc = some px_iast) (hi : i = nI n) (hn : n < 7) (kk : px_PW d code Q (pc + 1) lv r ([], px_MH Z (va_up F 2 (upd (F 2) n x)))) : px_PW d code Q pc lv (.int x :: .int i :: .ref 1003 :: r) ([], px_MH Z F) := px_PW.astN hT hc rfl hi hn kk
theorem ms_3 {d : Nat} {code : Nat → Option px_A} (hT : px_frT code) {Q : Option Value → px_H → Prop} {pc n : Nat} {i x : Int32} {lv : px_L} {r : List Value} {Z : Nat → Int32} {F : Nat → Nat → Int32} (hc : code pc = some px_iast) (hi : i = nI n) (hn : n < 6) (kk : px_PW d code Q (pc + 1) lv r ([], px_MH Z (va_up F 3 (upd (F 3) n x)))) : px_PW d code Q pc lv (.int x :: .int i :: .ref 1004 :: r) ([], px_MH Z F) := px_PW.astN hT hc rfl hi hn kk
theorem ms_4 {d : Nat} {code : Nat → Option px_A} (hT : px_frT code) {Q : Option Value → px_H → Prop} {pc n : Nat} {i x : Int32} {lv : px_L} {r : List Value} {Z : Nat → Int32} {F : Nat → Nat → Int32} (hc : code pc = some px_iast) (hi : i = nI n) (hn : n < 6) (kk : px_PW d code Q (pc + 1) lv r ([], px_MH Z (va_up F 4 (upd (F 4) n x)))) : px_PW d code Q pc lv (.int x :: .int i :: .ref 1005 :: r) ([], px_MH Z F) := px_PW.astN hT hc rfl hi hn kk
theorem ms_5 {d : Nat} {code : Nat → Option px_A} (hT : px_frT code) {Q : Option Value → px_H → Prop} {pc n : Nat} {i x : Int32} {lv : px_L} {r : List Value} {Z : Nat → Int32} {F : Nat → Nat → Int32} (hc : code pc = some px_iast) (hi : i = nI n) (hn : n < 124) (kk : px_PW d code Q (pc + 1) lv r ([], px_MH Z (va_up F 5 (upd (F 5) n x)))) : px_PW d code Q pc lv (.int x :: .int i :: .ref 1006 :: r) ([], px_MH Z F) := px_PW.astN hT hc rfl hi hn kk
theorem ms_6 {d : Nat} {code : Nat → Option px_A} (hT : px_frT code) {Q : Option Value → px_H → Prop} {pc n : Nat} {i x : Int32} {lv : px_L} {r : List Value} {Z : Nat → Int32} {F : Nat → Nat → Int32} (hc : code pc = some px_iast) (hi : i = nI n) (hn : n < 128) (kk : px_PW d code Q (pc + 1) lv r ([], px_MH Z (va_up F 6 (upd (F 6) n x)))) : px_PW d code Q pc lv (.int x :: .int i :: .ref 1007 :: r) ([], px_MH Z F) := px_PW.astN hT hc rfl hi hn kk
theorem ms_7 {d : Nat} {code : Nat → Option px_A} (hT : px_frT code) {Q : Option Value → px_H → Prop} {pc n : Nat} {i x : Int32} {lv : px_L} {r : List Value} {Z : Nat → Int32} {F : Nat → Nat → Int32} (hc : code pc = some px_iast) (hi : i = nI n) (hn : n < 64) (kk : px_PW d code Q (pc + 1) lv r ([], px_MH Z (va_up F 7 (upd (F 7) n x)))) : px_PW d code Q pc lv (.int x :: .int i :: .ref 1008 :: r) ([], px_MH Z F) := px_PW.astN hT hc rfl hi hn kk
theorem ms_8 {d : Nat} {code : Nat → Option px_A} (hT : px_frT code) {Q : Option Value → px_H → Prop} {pc n : Nat} {i x : Int32} {lv : px_L} {r : List Value} {Z : Nat → Int32} {F : Nat → Nat → Int32} (hc : code pc = some px_iast) (hi : i = nI n) (hn : n < 100) (kk : px_PW d code Q (pc + 1) lv r ([], px_MH Z (va_up F 8 (upd (F 8) n x)))) : px_PW d code Q pc lv (.int x :: .int i :: .ref 1009 :: r) ([], px_MH Z F) := px_PW.astN hT hc rfl hi hn kk
theorem ms_9 {d : Nat} {code : Nat → Option px_A} (hT : px_frT code) {Q : Option Value → px_H → Prop} {pc n : Nat} {i x : Int32} {lv : px_L} {r : List Value} {Z : Nat → Int32} {F : Nat → Nat → Int32} (hc : code pc = some px_iast) (hi : i = nI n) (hn : n < 100) (kk : px_PW d code Q (pc + 1) lv r ([], px_MH Z (va_up F 9 (upd (F 9) n x)))) : px_PW d code Q pc lv (.int x :: .int i :: .ref 1010 :: r) ([], px_MH Z F) := px_PW.astN hT hc rfl hi hn kk
theorem ms_10 {d : Nat} {code : Nat → Option px_A} (hT : px_frT code) {Q : Option Value → px_H → Prop} {pc n : Nat} {i x : Int32} {lv : px_L} {r : List Value} {Z : Nat → Int32} {F : Nat → Nat → Int32} (hc : code pc = some px_iast) (hi : i = nI n) (hn : n < 30) (kk : px_PW d code Q (pc + 1) lv r ([], px_MH Z (va_up F 10 (upd (F 10) n x)))) : px_PW d code Q pc lv (.int x :: .int i :: .ref 1011 :: r) ([], px_MH Z F) := px_PW.astN hT hc rfl hi hn kk
theorem ms_11 {d : Nat} {code : Nat → Option px_A} (hT : px_frT code) {Q : Option Value → px_H → Prop} {pc n : Nat} {i x : Int32} {lv : px_L} {r : List Value} {Z : Nat → Int32} {F : Nat → Nat → Int32} (hc : code pc = some px_iast) (hi : i = nI n) (hn : n < 4) (kk : px_PW d code Q (pc + 1) lv r ([], px_MH Z (va_up F 11 (upd (F 11) n x)))) : px_PW d code Q pc lv (.int x :: .int i :: .ref 1012 :: r) ([], px_MH Z F) := px_PW.astN hT hc rfl hi hn kk
theorem ms_12 {d : Nat} {code : Nat → Option px_A} (hT : px_frT code) {Q : Option Value → px_H → Prop} {pc n : Nat} {i x : Int32} {lv : px_L} {r : List Value} {Z : Nat → Int32} {F : Nat → Nat → Int32} (hc : code pc = some px_iast) (hi : i = nI n) (hn : n < 4) (kk : px_PW d code Q (pc + 1) lv r ([], px_MH Z (va_up F 12 (upd (F 12) n x)))) : px_PW d code Q pc lv (.int x :: .int i :: .ref 1013 :: r) ([], px_MH Z F) := px_PW.astN hT hc rfl hi hn kk
theorem ms_13 {d : Nat} {code : Nat → Option px_A} (hT : px_frT code) {Q : Option Value → px_H → Prop} {pc n : Nat} {i x : Int32} {lv : px_L} {r : List Value} {Z : Nat → Int32} {F : Nat → Nat → Int32} (hc : code pc = some px_iast) (hi : i = nI n) (hn : n < 96) (kk : px_PW d code Q (pc + 1) lv r ([], px_MH Z (va_up F 13 (upd (F 13) n x)))) : px_PW d code Q pc lv (.int x :: .int i :: .ref 1014 :: r) ([], px_MH Z F) := px_PW.astN hT hc rfl hi hn kk
theorem ms_14 {d : Nat} {code : Nat → Option px_A} (hT : px_frT code) {Q : Option Value → px_H → Prop} {pc n : Nat} {i x : Int32} {lv : px_L} {r : List Value} {Z : Nat → Int32} {F : Nat → Nat → Int32} (hc : code pc = some px_iast) (hi : i = nI n) (hn : n < 24) (kk : px_PW d code Q (pc + 1) lv r ([], px_MH Z (va_up F 14 (upd (F 14) n x)))) : px_PW d code Q pc lv (.int x :: .int i :: .ref 1015 :: r) ([], px_MH Z F) := px_PW.astN hT hc rfl hi hn kk
/-- the class's half is in order: the sizes of its rows -/
def px_cw (N : Nat → Int32) : Prop := N 0 = 7 ∧ N 9 = 7 ∧ N 18 = 7 ∧ ∀ q : Nat, q < 27 → 0 ≤ N q ∧ (N q).toInt ≤ px_lim q
theorem px_cw.lim {N : Nat → Int32} (h : px_cw N) {q : Nat} (hq : q < 27) : (N q).toInt ≤ px_lim q := (h.2.2.2 q hq).2
theorem px_cw.nn {N : Nat → Int32} (h : px_cw N) {q : Nat} (hq : q < 27) : 0 ≤ N q := (h.2.2.2 q hq).1
/-- the same but for scratch: what a call lays, reads, reckons, traces, and its ERRORS -/
def px_sc (Z N : Nat → Int32) (F : Nat → Nat → Int32) (Z' N' : Nat → Int32) (F' : Nat → Nat → Int32) : Prop := (∀ i : Nat, ¬ (6 ≤ i ∧ i ≤ 20) → Z' i = Z i) ∧ (∀ q : Nat, ¬ (23 ≤ q ∧ q ≤ 26) → N' q = N q) ∧ (∀ q : Nat, ¬ (q = 18 ∨ (23 ≤ q ∧ q ≤ 26)) → F' q = F q) ∧ (px_cw N → px_cw N')
theorem px_sc.rf {Z N : Nat → Int32} {F : Nat → Nat → Int32} : px_sc Z N F Z N F := ⟨fun _ _ => rfl, fun _ _ => rfl, fun _ _ => rfl, fun h => h⟩
theorem px_sc.tr {Z N Z1 N1 Z2 N2 : Nat → Int32} {F F1 F2 : Nat → Nat → Int32} (h : px_sc Z N F Z1 N1 F1) (h2 : px_sc Z1 N1 F1 Z2 N2 F2) : px_sc Z N F Z2 N2 F2 := ⟨fun i hi => (h2.1 i hi).trans (h.1 i hi), fun i hi => (h2.2.1 i hi).trans (h.2.1 i hi), fun i hi => (h2.2.2.1 i hi).trans (h.2.2.1 i hi), fun q => h2.2.2.2 (h.2.2.2 q)⟩
theorem px_sc.err {Z N : Nat → Int32} {F : Nat → Nat → Int32} {f : Nat → Int32} : px_sc Z N F Z N (va_up F 18 f) := ⟨fun _ _ => rfl, fun _ _ => rfl, fun q hq => px_up_ne F f (fun e => hq (Or.inl e)), fun h => h⟩
theorem px_sc.z {Z N Z' : Nat → Int32} {F : Nat → Nat → Int32} (h : px_same Z Z') : px_sc Z N F Z' N F := ⟨fun i hi => h i (fun q => hi ⟨q.1, by omega⟩), fun _ _ => rfl, fun _ _ => rfl, fun h => h⟩
/-- the reference's half, likewise -/
def px_sm (Z : Nat → Int32) (F : Nat → Nat → Int32) (Z' : Nat → Int32) (F' : Nat → Nat → Int32) : Prop := Z' 0 = Z 0 ∧ (0 ≤ Z 6 ∧ (Z 6).toInt ≤ 30 → 0 ≤ Z' 6 ∧ (Z' 6).toInt ≤ 30) ∧ F' 0 = F 0 ∧ F' 1 = F 1 ∧ F' 3 = F 3 ∧ F' 4 = F 4 ∧ F' 11 = F 11 ∧ F' 12 = F 12 ∧ F' 13 = F 13
theorem px_sm.rf {Z : Nat → Int32} {F : Nat → Nat → Int32} : px_sm Z F Z F := ⟨rfl, fun h => h, rfl, rfl, rfl, rfl, rfl, rfl, rfl⟩
theorem px_sm.tr {Z Z1 Z2 : Nat → Int32} {F F1 F2 : Nat → Nat → Int32} (h : px_sm Z F Z1 F1) (k : px_sm Z1 F1 Z2 F2) : px_sm Z F Z2 F2 := by
  obtain ⟨a0, a1, a2, a3, a4, a5, a6, a7, a8⟩ := h
  obtain ⟨b0, b1, b2, b3, b4, b5, b6, b7, b8⟩ := k
  exact ⟨b0.trans a0, fun q => b1 (a1 q), b2.trans a2, b3.trans a3, b4.trans a4, b5.trans a5, b6.trans a6, b7.trans a7, b8.trans a8⟩
theorem px_sm.err {Z : Nat → Int32} {F : Nat → Nat → Int32} {f : Nat → Int32} : px_sm Z F Z (va_up F 2 f) := ⟨rfl, fun h => h, rfl, rfl, rfl, rfl, rfl, rfl, rfl⟩
theorem px_ge (x : Int32) : (x.toInt < 0) = (x < 0) := by rw [Int32.lt_iff_toInt_lt]; rfl
theorem px_PW.hp {d : Nat} {code : Nat → Option px_A} {Q : Option Value → px_H → Prop} {pc : Nat} {lv : px_L} {st : List Value} {h h' : px_H} (e : h = h') (k : px_PW d code Q pc lv st h') : px_PW d code Q pc lv st h := by rw [e]; exact k
/-- a row whose places from p on, k of them, are g's -/
def zz_pl (g f : Nat → Int32) (p k : Nat) : Nat → Int32 := fun j => if p ≤ j ∧ j < p + k then g (j - p) else f j
theorem zz_pl_0 (g f : Nat → Int32) (p : Nat) : zz_pl g f p 0 = f := by
  funext j
  unfold zz_pl
  rw [if_neg (by omega)]
theorem zz_pl_s (g f : Nat → Int32) (p k : Nat) : upd (zz_pl g f p k) (p + k) (g k) = zz_pl g f p (k + 1) := by
  funext j
  unfold zz_pl upd
  by_cases h : j = p + k
  · subst h
    rw [if_pos rfl, if_pos (by omega), show p + k - p = k by omega]
  · rw [if_neg h]
    show (if p ≤ j ∧ j < p + k then g (j - p) else f j) = _
    by_cases h2 : p ≤ j ∧ j < p + k
    · rw [if_pos h2, if_pos (by omega)]
    · rw [if_neg h2, if_neg (by omega)]
theorem zz_pl_s0 (g f : Nat → Int32) (k : Nat) : upd (zz_pl g f 0 k) k (g k) = zz_pl g f 0 (k + 1) := by
  have h := zz_pl_s g f 0 k
  rw [Nat.zero_add] at h
  exact h
end
/-! part 26.cpub -/
section
theorem nb_getT {Z N : Nat → Int32} {F : Nat → Nat → Int32} {q : Nat} (hq : q < 27) {i : Int32} (hl : (N q).toInt ≤ px_lim q) (hN : N q = N 1) (hi : ¬ (i < 0 ∨ N 1 ≤ i)) : px_PM 1 6 [.ref (px_O q), .int i] (px_CH Z N F, []) (fun r h' => r = some (.int (F q i.toNatClampNeg)) ∧ h' = (px_CH Z N F, [])) := by
  have h := nb_get (Z := Z) (N := N) (F := F) hq i hl
  rw [hN, if_neg hi] at h
  exact h
theorem nb_setT {Z N : Nat → Int32} {F : Nat → Nat → Int32} {q : Nat} (hq : q < 27) {i : Int32} (hl : (N q).toInt ≤ px_lim q) (hN : N q = N 1) (hi : ¬ (i < 0 ∨ N 1 ≤ i)) (v : Int32) : px_PM 1 7 [.ref (px_O q), .int i, .int v] (px_CH Z N F, []) (fun r h' => r = none ∧ h' = (px_CH Z N (va_up F q (upd (F q) i.toNatClampNeg v)), [])) := by
  have h := nb_set (Z := Z) (N := N) (F := F) hq i v hl
  rw [hN, if_neg hi] at h
  exact h
theorem nb_setW {Z N : Nat → Int32} {F : Nat → Nat → Int32} (h0 : N 0 = 7) (k : Nat) (hk : k < 7) (v : Int32) : px_PM 1 7 [.ref 2, .int (Int32.ofNat k), .int v] (px_CH Z N F, []) (fun r h' => r = none ∧ h' = (px_CH Z N (va_up F 0 (upd (F 0) k v)), [])) := by
  have h := nb_set (Z := Z) (N := N) (F := F) (q := 0) (by decide) (Int32.ofNat k) v (px_l7 h0)
  rw [if_neg (px_k18 h0 hk).1, (px_k18 h0 hk).2] at h
  exact h
theorem nb_setV {Z N : Nat → Int32} {F : Nat → Nat → Int32} (h0 : N 0 = 7) (v : Int32) {i : Int32} (hi : ∃ k : Nat, k < 6 ∧ i = nI k) : px_PM 1 7 [.ref 2, .int i, .int v] (px_CH Z N F, []) (fun r h' => r = none ∧ h' = (px_CH Z N (va_up F 0 (upd (F 0) i.toNatClampNeg v)), [])) := by
  obtain ⟨k, hk, rfl⟩ := hi
  have h := nb_setW (Z := Z) (N := N) (F := F) h0 k (by omega) v
  rw [nI_clamp (by omega)]
  exact h
theorem cc_isV {Z N : Nat → Int32} {F : Nat → Nat → Int32} (h0 : N 0 = 7) {i : Int32} (hi : ∃ k : Nat, k < 7 ∧ i = nI k) : px_PM 2 87 [.ref 0, .int i] (px_CH Z N F, []) (fun r h' => r = some (.int (F 0 i.toNatClampNeg)) ∧ h' = (px_CH Z N F, [])) := by
  obtain ⟨k, hk, rfl⟩ := hi
  rw [nI_clamp (by omega)]
  exact cc_is h0 k hk
theorem px_lt7 {i : Int32} {n : Nat} (hn : n < 1000) (c0 : ¬ (i < 0)) (c1 : ¬ (nI n < i)) : ∃ k : Nat, k < n + 1 ∧ i = nI k := by
  obtain ⟨k, hk, rfl⟩ := nI_of c0
  rw [nI_ltI (by omega) (by omega)] at c1
  exact ⟨k, by omega, rfl⟩
theorem cc_isRow {Z N : Nat → Int32} {F : Nat → Nat → Int32} (h0 : N 0 = 7) (k : Int32) : px_PM 3 89 [.ref 0, .int k] (px_CH Z N F, []) (fun r h' => r = some (.int (if k < 0 ∨ F 0 4 ≤ k then 0 else 1)) ∧ h' = (px_CH Z N F, [])) := by
  refine px_PM.start (nL := 2) (code := pc_89) rfl rfl ?_
  refine px_PW.steps kt_89.2 2 rfl ?_
  refine px_PW.br (fun c0 => ?_) (fun c0 => ?_)
  · have c0 := of_decide_eq_true c0
    refine px_PW.steps kt_89.2 1 rfl ?_
    refine px_PW.ret kt_89.2 rfl rfl ?_
    exact ⟨by simp [*], rfl⟩
  · have c0 := of_decide_eq_false c0
    refine px_PW.steps kt_89.2 3 rfl ?_
    refine px_PW.callV kt_89.2 rfl rfl rfl rfl (cc_is h0 4 (by decide)) (by decide) (fun v h1 q => ?_)
    obtain ⟨rfl, rfl⟩ := q
    refine px_PW.steps kt_89.2 1 rfl ?_
    refine px_PW.br (fun c1 => ?_) (fun c1 => ?_)
    · have c1 := of_decide_eq_true c1
      refine px_PW.steps kt_89.2 1 rfl ?_
      refine px_PW.ret kt_89.2 rfl rfl ?_
      exact ⟨by simp [*], rfl⟩
    · have c1 := of_decide_eq_false c1
      refine px_PW.steps kt_89.2 2 rfl ?_
      refine px_PW.ret kt_89.2 rfl rfl ?_
      exact ⟨by simp [*], rfl⟩
theorem px_kaldV {d : Nat} {code : Nat → Option px_A} (hT : px_frT code) {Q : Option Value → px_H → Prop} {pc : Nat} {a : Nat} {i : Int32} {lv : px_L} {r : List Value} {h : px_H} (hc : code pc = some px_kald) (hi : ∃ k : Nat, k < 6 ∧ i = nI k) (k : px_PW d code Q (pc + 1) lv (.int (cond (Nat.beq a 3000) (px_K0 i.toNatClampNeg) (px_K1 i.toNatClampNeg)) :: r) h) (ha : a = 3000 ∨ a = 3001 := by decide) : px_PW d code Q pc lv (.int i :: .ref a :: r) h := by
  obtain ⟨n, hn, rfl⟩ := hi
  refine px_PW.one hc (fun m => ?_) k hT
  unfold px_kald
  dsimp only
  rw [px_inbN hn (by decide)]
  rcases ha with rfl | rfl <;> rfl
theorem px_lt6 {i : Int32} (h : ∃ k : Nat, k < 6 ∧ i = nI k) : ∃ k : Nat, k < 7 ∧ i = nI k := by obtain ⟨k, a, b⟩ := h; exact ⟨k, by omega, b⟩
def s_wall (Z N : Nat → Int32) (F : Nat → Nat → Int32) (what : Int32) (v : Int32) : Int32 × (Nat → Int32) × (Nat → Int32) × (Nat → Nat → Int32) := (if what < 0 then ((-1000000000 - 1), Z, N, F) else (if 5 < what then ((-1000000000 - 1), Z, N, F) else (if v < (px_K0 (what).toNatClampNeg) then ((-1000000000 - 1), Z, N, F) else (if v ≤ (px_K1 (what).toNatClampNeg) then (if what = 1 then (((F 0) (what).toNatClampNeg), Z, N, (va_up (va_up F 0 (upd (F 0) (what).toNatClampNeg v)) 0 (upd (upd (F 0) (what).toNatClampNeg v) 6 v))) else (((F 0) (what).toNatClampNeg), Z, N, (va_up F 0 (upd (F 0) (what).toNatClampNeg v)))) else ((-1000000000 - 1), Z, N, F)))))
theorem kc_wall {Z N : Nat → Int32} {F : Nat → Nat → Int32} (hw : px_cw N) (what : Int32) (v : Int32) : px_PM 3 49 [.ref 0, .int what, .int v] (px_CH Z N F, []) (fun r h' => r = some (.int (s_wall Z N F what v).1) ∧ ∃ Z' N' F', px_sc (s_wall Z N F what v).2.1 (s_wall Z N F what v).2.2.1 (s_wall Z N F what v).2.2.2 Z' N' F' ∧ h' = (px_CH Z' N' F', [])) := by
  refine px_PM.start (nL := 4) (code := pc_49) rfl rfl ?_
  refine px_PW.steps kt_49.2 2 rfl ?_
  refine px_PW.br (fun c0 => ?_) (fun c0 => ?_)
  · have c0 : what < 0 := of_decide_eq_true c0
    refine px_PW.steps kt_49.2 2 rfl ?_
    refine px_PW.callV kt_49.2 rfl rfl rfl rfl (cc_error hw.2.2.1 1 (by decide)) (by decide) (fun v h1 q => ?_)
    obtain ⟨rfl, rfl⟩ := q
    refine px_PW.ret kt_49.2 rfl rfl ?_
    have E : s_wall Z N F what v = ((-1000000000 - 1), Z, N, F) := if_pos c0
    rw [E]
    exact ⟨rfl, _, _, _, px_sc.err, rfl⟩
  · have c0 : ¬ (what < 0) := of_decide_eq_false c0
    refine px_PW.steps kt_49.2 3 rfl ?_
    refine px_PW.br (fun c1 => ?_) (fun c1 => ?_)
    · have c1 : 5 < what := of_decide_eq_true c1
      refine px_PW.steps kt_49.2 2 rfl ?_
      refine px_PW.callV kt_49.2 rfl rfl rfl rfl (cc_error hw.2.2.1 1 (by decide)) (by decide) (fun v h1 q => ?_)
      obtain ⟨rfl, rfl⟩ := q
      refine px_PW.ret kt_49.2 rfl rfl ?_
      have E : s_wall Z N F what v = ((-1000000000 - 1), Z, N, F) := (if_neg c0).trans (if_pos c1)
      rw [E]
      exact ⟨rfl, _, _, _, px_sc.err, rfl⟩
    · have c1 : ¬ (5 < what) := of_decide_eq_false c1
      refine px_PW.steps kt_49.2 3 rfl ?_
      refine px_kaldV kt_49.2 (a := 3000) rfl (px_lt7 (n := 5) (by decide) c0 c1) ?_
      refine px_PW.steps kt_49.2 1 rfl ?_
      refine px_PW.br (fun c2 => ?_) (fun c2 => ?_)
      · have c2 : v < (px_K0 (what).toNatClampNeg) := of_decide_eq_true c2
        refine px_PW.steps kt_49.2 2 rfl ?_
        refine px_PW.callV kt_49.2 rfl rfl rfl rfl (cc_error hw.2.2.1 1 (by decide)) (by decide) (fun v h1 q => ?_)
        obtain ⟨rfl, rfl⟩ := q
        refine px_PW.ret kt_49.2 rfl rfl ?_
        have E : s_wall Z N F what v = ((-1000000000 - 1), Z, N, F) := (if_neg c0).trans ((if_neg c1).trans (if_pos c2))
        rw [E]
        exact ⟨rfl, _, _, _, px_sc.err, rfl⟩
      · have c2 : ¬ (v < (px_K0 (what).toNatClampNeg)) := of_decide_eq_false c2
        refine px_PW.steps kt_49.2 3 rfl ?_
        refine px_kaldV kt_49.2 (a := 3001) rfl (px_lt7 (n := 5) (by decide) c0 c1) ?_
        refine px_PW.steps kt_49.2 1 rfl ?_
        refine px_PW.br (fun c3 => ?_) (fun c3 => ?_)
        · have c3 : v ≤ (px_K1 (what).toNatClampNeg) := of_decide_eq_true c3
          refine px_PW.steps kt_49.2 2 rfl ?_
          refine px_PW.callV kt_49.2 rfl rfl rfl rfl (cc_isV hw.1 (px_lt6 (px_lt7 (n := 5) (by decide) c0 c1))) (by decide) (fun v h1 q => ?_)
          obtain ⟨rfl, rfl⟩ := q
          refine px_PW.steps kt_49.2 6 rfl ?_
          refine px_PW.callV kt_49.2 rfl rfl rfl rfl (nb_setV hw.1 _ (px_lt7 (n := 5) (by decide) c0 c1)) (by decide) (fun v h1 q => ?_)
          obtain ⟨rfl, rfl⟩ := q
          refine px_PW.steps kt_49.2 3 rfl ?_
          refine px_PW.br (fun c4 => ?_) (fun c4 => ?_)
          · have c4 : ¬ (what = 1) := of_decide_eq_false (px_nt c4)
            refine px_PW.steps kt_49.2 1 rfl ?_
            refine px_PW.ret kt_49.2 rfl rfl ?_
            have E : s_wall Z N F what v = (((F 0) (what).toNatClampNeg), Z, N, (va_up F 0 (upd (F 0) (what).toNatClampNeg v))) := (if_neg c0).trans ((if_neg c1).trans ((if_neg c2).trans ((if_pos c3).trans (if_neg c4))))
            rw [E]
            exact ⟨rfl, _, _, _, px_sc.rf, rfl⟩
          · have c4 : what = 1 := of_decide_eq_true (px_nf c4)
            refine px_PW.steps kt_49.2 5 rfl ?_
            refine px_PW.callV kt_49.2 rfl rfl rfl rfl (nb_setW hw.1 6 (by decide) _) (by decide) (fun v h1 q => ?_)
            obtain ⟨rfl, rfl⟩ := q
            refine px_PW.steps kt_49.2 1 rfl ?_
            refine px_PW.ret kt_49.2 rfl rfl ?_
            have E : s_wall Z N F what v = (((F 0) (what).toNatClampNeg), Z, N, (va_up (va_up F 0 (upd (F 0) (what).toNatClampNeg v)) 0 (upd (upd (F 0) (what).toNatClampNeg v) 6 v))) := (if_neg c0).trans ((if_neg c1).trans ((if_neg c2).trans ((if_pos c3).trans (if_pos c4))))
            rw [E]
            exact ⟨rfl, _, _, _, px_sc.rf, rfl⟩
        · have c3 : ¬ (v ≤ (px_K1 (what).toNatClampNeg)) := of_decide_eq_false c3
          refine px_PW.steps kt_49.2 2 rfl ?_
          refine px_PW.callV kt_49.2 rfl rfl rfl rfl (cc_error hw.2.2.1 1 (by decide)) (by decide) (fun v h1 q => ?_)
          obtain ⟨rfl, rfl⟩ := q
          refine px_PW.ret kt_49.2 rfl rfl ?_
          have E : s_wall Z N F what v = ((-1000000000 - 1), Z, N, F) := (if_neg c0).trans ((if_neg c1).trans ((if_neg c2).trans (if_neg c3)))
          rw [E]
          exact ⟨rfl, _, _, _, px_sc.err, rfl⟩
def s_wallIs (Z N : Nat → Int32) (F : Nat → Nat → Int32) (what : Int32) : Int32 := (if what < 0 then (-1000000000 - 1) else (if what ≤ 6 then ((F 0) (what).toNatClampNeg) else (-1000000000 - 1)))
theorem kc_wallIs {Z N : Nat → Int32} {F : Nat → Nat → Int32} (hw : px_cw N) (what : Int32) : px_PM 3 50 [.ref 0, .int what] (px_CH Z N F, []) (fun r h' => r = some (.int (s_wallIs Z N F what)) ∧ ∃ Z' N' F', px_sc Z N F Z' N' F' ∧ h' = (px_CH Z' N' F', [])) := by
  refine px_PM.start (nL := 2) (code := pc_50) rfl rfl ?_
  refine px_PW.steps kt_50.2 2 rfl ?_
  refine px_PW.br (fun c0 => ?_) (fun c0 => ?_)
  · have c0 : what < 0 := of_decide_eq_true c0
    refine px_PW.steps kt_50.2 2 rfl ?_
    refine px_PW.callV kt_50.2 rfl rfl rfl rfl (cc_error hw.2.2.1 1 (by decide)) (by decide) (fun v h1 q => ?_)
    obtain ⟨rfl, rfl⟩ := q
    refine px_PW.steps kt_50.2 1 rfl ?_
    refine px_PW.ret kt_50.2 rfl rfl ?_
    have E : s_wallIs Z N F what = (-1000000000 - 1) := if_pos c0
    rw [E]
    exact ⟨rfl, _, _, _, px_sc.err, rfl⟩
  · have c0 : ¬ (what < 0) := of_decide_eq_false c0
    refine px_PW.steps kt_50.2 3 rfl ?_
    refine px_PW.br (fun c1 => ?_) (fun c1 => ?_)
    · have c1 : what ≤ 6 := of_decide_eq_true c1
      refine px_PW.steps kt_50.2 2 rfl ?_
      refine px_PW.callV kt_50.2 rfl rfl rfl rfl (cc_isV hw.1 (px_lt7 (n := 6) (by decide) c0 (Int32.not_lt.mpr c1))) (by decide) (fun v h1 q => ?_)
      obtain ⟨rfl, rfl⟩ := q
      refine px_PW.ret kt_50.2 rfl rfl ?_
      have E : s_wallIs Z N F what = ((F 0) (what).toNatClampNeg) := (if_neg c0).trans (if_pos c1)
      rw [E]
      exact ⟨rfl, _, _, _, px_sc.rf, rfl⟩
    · have c1 : ¬ (what ≤ 6) := of_decide_eq_false c1
      refine px_PW.steps kt_50.2 2 rfl ?_
      refine px_PW.callV kt_50.2 rfl rfl rfl rfl (cc_error hw.2.2.1 1 (by decide)) (by decide) (fun v h1 q => ?_)
      obtain ⟨rfl, rfl⟩ := q
      refine px_PW.steps kt_50.2 1 rfl ?_
      refine px_PW.ret kt_50.2 rfl rfl ?_
      have E : s_wallIs Z N F what = (-1000000000 - 1) := (if_neg c0).trans (if_neg c1)
      rw [E]
      exact ⟨rfl, _, _, _, px_sc.err, rfl⟩
def s_begin (Z N : Nat → Int32) (F : Nat → Nat → Int32) (first : Int32) : Int32 × (Nat → Int32) × (Nat → Int32) × (Nat → Nat → Int32) := (if first < 1 then ((-1000000000 - 1), Z, N, F) else (if first ≤ ((F 0) 1) then (((F 0) 6), Z, N, (va_up F 0 (upd (F 0) 6 first))) else ((-1000000000 - 1), Z, N, F)))
theorem kc_begin {Z N : Nat → Int32} {F : Nat → Nat → Int32} (hw : px_cw N) (first : Int32) : px_PM 3 51 [.ref 0, .int first] (px_CH Z N F, []) (fun r h' => r = some (.int (s_begin Z N F first).1) ∧ ∃ Z' N' F', px_sc (s_begin Z N F first).2.1 (s_begin Z N F first).2.2.1 (s_begin Z N F first).2.2.2 Z' N' F' ∧ h' = (px_CH Z' N' F', [])) := by
  refine px_PM.start (nL := 3) (code := pc_51) rfl rfl ?_
  refine px_PW.steps kt_51.2 3 rfl ?_
  refine px_PW.br (fun c0 => ?_) (fun c0 => ?_)
  · have c0 : first < 1 := of_decide_eq_true c0
    refine px_PW.steps kt_51.2 2 rfl ?_
    refine px_PW.callV kt_51.2 rfl rfl rfl rfl (cc_error hw.2.2.1 1 (by decide)) (by decide) (fun v h1 q => ?_)
    obtain ⟨rfl, rfl⟩ := q
    refine px_PW.ret kt_51.2 rfl rfl ?_
    have E : s_begin Z N F first = ((-1000000000 - 1), Z, N, F) := if_pos c0
    rw [E]
    exact ⟨rfl, _, _, _, px_sc.err, rfl⟩
  · have c0 : ¬ (first < 1) := of_decide_eq_false c0
    refine px_PW.steps kt_51.2 3 rfl ?_
    refine px_PW.callV kt_51.2 rfl rfl rfl rfl (cc_is hw.1 1 (by decide)) (by decide) (fun v h1 q => ?_)
    obtain ⟨rfl, rfl⟩ := q
    refine px_PW.steps kt_51.2 1 rfl ?_
    refine px_PW.br (fun c1 => ?_) (fun c1 => ?_)
    · have c1 : first ≤ ((F 0) 1) := of_decide_eq_true c1
      refine px_PW.steps kt_51.2 2 rfl ?_
      refine px_PW.callV kt_51.2 rfl rfl rfl rfl (cc_is hw.1 6 (by decide)) (by decide) (fun v h1 q => ?_)
      obtain ⟨rfl, rfl⟩ := q
      refine px_PW.steps kt_51.2 6 rfl ?_
      refine px_PW.callV kt_51.2 rfl rfl rfl rfl (nb_setW hw.1 6 (by decide) _) (by decide) (fun v h1 q => ?_)
      obtain ⟨rfl, rfl⟩ := q
      refine px_PW.steps kt_51.2 1 rfl ?_
      refine px_PW.ret kt_51.2 rfl rfl ?_
      have E : s_begin Z N F first = (((F 0) 6), Z, N, (va_up F 0 (upd (F 0) 6 first))) := (if_neg c0).trans (if_pos c1)
      rw [E]
      exact ⟨rfl, _, _, _, px_sc.rf, rfl⟩
    · have c1 : ¬ (first ≤ ((F 0) 1)) := of_decide_eq_false c1
      refine px_PW.steps kt_51.2 2 rfl ?_
      refine px_PW.callV kt_51.2 rfl rfl rfl rfl (cc_error hw.2.2.1 1 (by decide)) (by decide) (fun v h1 q => ?_)
      obtain ⟨rfl, rfl⟩ := q
      refine px_PW.ret kt_51.2 rfl rfl ?_
      have E : s_begin Z N F first = ((-1000000000 - 1), Z, N, F) := (if_neg c0).trans (if_neg c1)
      rw [E]
      exact ⟨rfl, _, _, _, px_sc.err, rfl⟩
def s_thingIs (Z N : Nat → Int32) (F : Nat → Nat → Int32) (thing : Int32) (what : Int32) : Int32 := (if thing < 0 ∨ (N 1) ≤ thing then (-1000000000 - 1) else (if what = 0 then ((F 1) (thing).toNatClampNeg) else (if what = 1 then ((F 2) (thing).toNatClampNeg) else (if what = 2 then ((F 3) (thing).toNatClampNeg) else (if what = 3 then ((F 4) (thing).toNatClampNeg) else (-1000000000 - 1))))))
theorem px_swd_53_15 {x : Int32} (c0 : ¬ (x = 0)) (c1 : ¬ (x = 1)) (c2 : ¬ (x = 2)) (c3 : ¬ (x = 3)) : px_sw 0 [44, 56, 68, 80] 92 x.toInt = 92 := by
  have d0 : ¬ (x.toInt = 0) := fun h => c0 (px_i_of h (by decide +kernel))
  have d1 : ¬ (x.toInt = 1) := fun h => c1 (px_i_of h (by decide +kernel))
  have d2 : ¬ (x.toInt = 2) := fun h => c2 (px_i_of h (by decide +kernel))
  have d3 : ¬ (x.toInt = 3) := fun h => c3 (px_i_of h (by decide +kernel))
  exact px_sw_d (fun y h1 h2 => by
    have h1 : (0 : Int) ≤ y := h1
    have h2 : y < 4 := h2
    rcases (show y = 0 ∨ y = 1 ∨ y = 2 ∨ y = 3 by omega) with rfl | rfl | rfl | rfl
    · exact Or.inl (fun h => d0 h)
    · exact Or.inl (fun h => d1 h)
    · exact Or.inl (fun h => d2 h)
    · exact Or.inl (fun h => d3 h))
theorem kc_thingIs {Z N : Nat → Int32} {F : Nat → Nat → Int32} (hw : px_cw N) (hT : N 2 = N 1 ∧ N 3 = N 1 ∧ N 4 = N 1) (thing : Int32) (what : Int32) : px_PM 3 53 [.ref 0, .int thing, .int what] (px_CH Z N F, []) (fun r h' => r = some (.int (s_thingIs Z N F thing what)) ∧ ∃ Z' N' F', px_sc Z N F Z' N' F' ∧ h' = (px_CH Z' N' F', [])) := by
  refine px_PM.start (nL := 3) (code := pc_53) rfl rfl ?_
  refine px_PW.steps kt_53.2 2 rfl ?_
  refine px_PW.callV kt_53.2 rfl rfl rfl rfl (cc_isThing _) (by decide) (fun v h1 q => ?_)
  obtain ⟨rfl, rfl⟩ := q
  refine px_PW.steps kt_53.2 1 rfl ?_
  refine px_PW.br (fun c0 => ?_) (fun c0 => ?_)
  · have c0 : ¬ (thing < 0 ∨ (N 1) ≤ thing) := px_b0n (of_decide_eq_false (px_nt c0))
    refine px_PW.steps kt_53.2 2 rfl ?_
    by_cases c1 : what = 0
    · refine px_PW.at (pc' := 44) (by rw [c1]; rfl) ?_
      refine px_PW.steps kt_53.2 4 rfl ?_
      refine px_PW.callV kt_53.2 rfl rfl rfl rfl (nb_getT (q := 1) (by decide) (hw.lim (by decide)) rfl c0) (by decide) (fun v h1 q => ?_)
      obtain ⟨rfl, rfl⟩ := q
      refine px_PW.ret kt_53.2 rfl rfl ?_
      have E : s_thingIs Z N F thing what = ((F 1) (thing).toNatClampNeg) := (if_neg c0).trans (if_pos c1)
      rw [E]
      exact ⟨rfl, _, _, _, px_sc.rf, rfl⟩
    · skip
      by_cases c2 : what = 1
      · refine px_PW.at (pc' := 56) (by rw [c2]; rfl) ?_
        refine px_PW.steps kt_53.2 4 rfl ?_
        refine px_PW.callV kt_53.2 rfl rfl rfl rfl (nb_getT (q := 2) (by decide) (hw.lim (by decide)) hT.1 c0) (by decide) (fun v h1 q => ?_)
        obtain ⟨rfl, rfl⟩ := q
        refine px_PW.ret kt_53.2 rfl rfl ?_
        have E : s_thingIs Z N F thing what = ((F 2) (thing).toNatClampNeg) := (if_neg c0).trans ((if_neg c1).trans (if_pos c2))
        rw [E]
        exact ⟨rfl, _, _, _, px_sc.rf, rfl⟩
      · skip
        by_cases c3 : what = 2
        · refine px_PW.at (pc' := 68) (by rw [c3]; rfl) ?_
          refine px_PW.steps kt_53.2 4 rfl ?_
          refine px_PW.callV kt_53.2 rfl rfl rfl rfl (nb_getT (q := 3) (by decide) (hw.lim (by decide)) hT.2.1 c0) (by decide) (fun v h1 q => ?_)
          obtain ⟨rfl, rfl⟩ := q
          refine px_PW.ret kt_53.2 rfl rfl ?_
          have E : s_thingIs Z N F thing what = ((F 3) (thing).toNatClampNeg) := (if_neg c0).trans ((if_neg c1).trans ((if_neg c2).trans (if_pos c3)))
          rw [E]
          exact ⟨rfl, _, _, _, px_sc.rf, rfl⟩
        · skip
          by_cases c4 : what = 3
          · refine px_PW.at (pc' := 80) (by rw [c4]; rfl) ?_
            refine px_PW.steps kt_53.2 4 rfl ?_
            refine px_PW.callV kt_53.2 rfl rfl rfl rfl (nb_getT (q := 4) (by decide) (hw.lim (by decide)) hT.2.2 c0) (by decide) (fun v h1 q => ?_)
            obtain ⟨rfl, rfl⟩ := q
            refine px_PW.ret kt_53.2 rfl rfl ?_
            have E : s_thingIs Z N F thing what = ((F 4) (thing).toNatClampNeg) := (if_neg c0).trans ((if_neg c1).trans ((if_neg c2).trans ((if_neg c3).trans (if_pos c4))))
            rw [E]
            exact ⟨rfl, _, _, _, px_sc.rf, rfl⟩
          · skip
            refine px_PW.at (px_swd_53_15 c1 c2 c3 c4) ?_
            refine px_PW.steps kt_53.2 2 rfl ?_
            refine px_PW.callV kt_53.2 rfl rfl rfl rfl (cc_error hw.2.2.1 1 (by decide)) (by decide) (fun v h1 q => ?_)
            obtain ⟨rfl, rfl⟩ := q
            refine px_PW.ret kt_53.2 rfl rfl ?_
            have E : s_thingIs Z N F thing what = (-1000000000 - 1) := (if_neg c0).trans ((if_neg c1).trans ((if_neg c2).trans ((if_neg c3).trans (if_neg c4))))
            rw [E]
            exact ⟨rfl, _, _, _, px_sc.err, rfl⟩
  · have c0 : thing < 0 ∨ (N 1) ≤ thing := px_b0z (of_decide_eq_true (px_nf c0))
    refine px_PW.steps kt_53.2 2 rfl ?_
    refine px_PW.callV kt_53.2 rfl rfl rfl rfl (cc_error hw.2.2.1 1 (by decide)) (by decide) (fun v h1 q => ?_)
    obtain ⟨rfl, rfl⟩ := q
    refine px_PW.ret kt_53.2 rfl rfl ?_
    have E : s_thingIs Z N F thing what = (-1000000000 - 1) := if_pos c0
    rw [E]
    exact ⟨rfl, _, _, _, px_sc.err, rfl⟩
def s_become (Z N : Nat → Int32) (F : Nat → Nat → Int32) (thing : Int32) (km : Int32) : Int32 × (Nat → Int32) × (Nat → Int32) × (Nat → Nat → Int32) := (if thing < 0 ∨ (N 1) ≤ thing then ((-1000000000 - 1), Z, N, F) else (if km < 0 ∨ 69 < km then ((-1000000000 - 1), Z, N, F) else (((F 1) (thing).toNatClampNeg), Z, N, (va_up (va_up F 1 (upd (F 1) (thing).toNatClampNeg (km / 10))) 2 (upd (F 2) (thing).toNatClampNeg (km - km / 10 * 10))))))
theorem kc_become {Z N : Nat → Int32} {F : Nat → Nat → Int32} (hw : px_cw N) (hT : N 2 = N 1 ∧ N 3 = N 1 ∧ N 4 = N 1) (thing : Int32) (km : Int32) : px_PM 3 54 [.ref 0, .int thing, .int km] (px_CH Z N F, []) (fun r h' => r = some (.int (s_become Z N F thing km).1) ∧ ∃ Z' N' F', px_sc (s_become Z N F thing km).2.1 (s_become Z N F thing km).2.2.1 (s_become Z N F thing km).2.2.2 Z' N' F' ∧ h' = (px_CH Z' N' F', [])) := by
  refine px_PM.start (nL := 4) (code := pc_54) rfl rfl ?_
  refine px_PW.steps kt_54.2 2 rfl ?_
  refine px_PW.callV kt_54.2 rfl rfl rfl rfl (cc_isThing _) (by decide) (fun v h1 q => ?_)
  obtain ⟨rfl, rfl⟩ := q
  refine px_PW.steps kt_54.2 1 rfl ?_
  refine px_PW.br (fun c0 => ?_) (fun c0 => ?_)
  · have c0 : thing < 0 ∨ (N 1) ≤ thing := px_b0z (of_decide_eq_true c0)
    refine px_PW.steps kt_54.2 2 rfl ?_
    refine px_PW.callV kt_54.2 rfl rfl rfl rfl (cc_error hw.2.2.1 1 (by decide)) (by decide) (fun v h1 q => ?_)
    obtain ⟨rfl, rfl⟩ := q
    refine px_PW.ret kt_54.2 rfl rfl ?_
    have E : s_become Z N F thing km = ((-1000000000 - 1), Z, N, F) := if_pos c0
    rw [E]
    exact ⟨rfl, _, _, _, px_sc.err, rfl⟩
  · have c0 : ¬ (thing < 0 ∨ (N 1) ≤ thing) := px_b0n (of_decide_eq_false c0)
    refine px_PW.steps kt_54.2 1 rfl ?_
    refine px_PW.callS kt_54.2 rfl rfl rfl (cc_isKM _ _) (by decide) (fun v h1 q => ?_)
    obtain ⟨rfl, rfl⟩ := q
    refine px_PW.steps kt_54.2 1 rfl ?_
    refine px_PW.br (fun c1 => ?_) (fun c1 => ?_)
    · have c1 : ¬ (km < 0 ∨ 69 < km) := px_b0n (of_decide_eq_false (px_nt c1))
      refine px_PW.steps kt_54.2 4 rfl ?_
      refine px_PW.callV kt_54.2 rfl rfl rfl rfl (nb_getT (q := 1) (by decide) (hw.lim (by decide)) rfl c0) (by decide) (fun v h1 q => ?_)
      obtain ⟨rfl, rfl⟩ := q
      refine px_PW.steps kt_54.2 8 rfl ?_
      refine px_PW.callV kt_54.2 rfl rfl rfl rfl (nb_setT (q := 1) (by decide) (hw.lim (by decide)) rfl c0 _) (by decide) (fun v h1 q => ?_)
      obtain ⟨rfl, rfl⟩ := q
      refine px_PW.steps kt_54.2 7 rfl ?_
      refine px_PW.callV kt_54.2 rfl rfl rfl rfl (nb_setT (q := 2) (by decide) (hw.lim (by decide)) hT.1 c0 _) (by decide) (fun v h1 q => ?_)
      obtain ⟨rfl, rfl⟩ := q
      refine px_PW.steps kt_54.2 1 rfl ?_
      refine px_PW.ret kt_54.2 rfl rfl ?_
      have E : s_become Z N F thing km = (((F 1) (thing).toNatClampNeg), Z, N, (va_up (va_up F 1 (upd (F 1) (thing).toNatClampNeg (km / 10))) 2 (upd (F 2) (thing).toNatClampNeg (km - km / 10 * 10)))) := (if_neg c0).trans (if_neg c1)
      rw [E]
      exact ⟨rfl, _, _, _, px_sc.rf, rfl⟩
    · have c1 : km < 0 ∨ 69 < km := px_b0z (of_decide_eq_true (px_nf c1))
      refine px_PW.steps kt_54.2 2 rfl ?_
      refine px_PW.callV kt_54.2 rfl rfl rfl rfl (cc_error hw.2.2.1 1 (by decide)) (by decide) (fun v h1 q => ?_)
      obtain ⟨rfl, rfl⟩ := q
      refine px_PW.ret kt_54.2 rfl rfl ?_
      have E : s_become Z N F thing km = ((-1000000000 - 1), Z, N, F) := (if_neg c0).trans (if_pos c1)
      rw [E]
      exact ⟨rfl, _, _, _, px_sc.err, rfl⟩
def s_hang (Z N : Nat → Int32) (F : Nat → Nat → Int32) (thing : Int32) (from_ : Int32) : Int32 × (Nat → Int32) × (Nat → Int32) × (Nat → Nat → Int32) := (if thing < 0 ∨ (N 1) ≤ thing then ((-1000000000 - 1), Z, N, F) else (if from_ < 0 ∨ 4000 < from_ then ((-1000000000 - 1), Z, N, F) else (((F 3) (thing).toNatClampNeg), Z, N, (va_up F 3 (upd (F 3) (thing).toNatClampNeg from_)))))
theorem kc_hang {Z N : Nat → Int32} {F : Nat → Nat → Int32} (hw : px_cw N) (hT : N 2 = N 1 ∧ N 3 = N 1 ∧ N 4 = N 1) (thing : Int32) (from_ : Int32) : px_PM 3 56 [.ref 0, .int thing, .int from_] (px_CH Z N F, []) (fun r h' => r = some (.int (s_hang Z N F thing from_).1) ∧ ∃ Z' N' F', px_sc (s_hang Z N F thing from_).2.1 (s_hang Z N F thing from_).2.2.1 (s_hang Z N F thing from_).2.2.2 Z' N' F' ∧ h' = (px_CH Z' N' F', [])) := by
  refine px_PM.start (nL := 4) (code := pc_56) rfl rfl ?_
  refine px_PW.steps kt_56.2 2 rfl ?_
  refine px_PW.callV kt_56.2 rfl rfl rfl rfl (cc_isThing _) (by decide) (fun v h1 q => ?_)
  obtain ⟨rfl, rfl⟩ := q
  refine px_PW.steps kt_56.2 1 rfl ?_
  refine px_PW.br (fun c0 => ?_) (fun c0 => ?_)
  · have c0 : thing < 0 ∨ (N 1) ≤ thing := px_b0z (of_decide_eq_true c0)
    refine px_PW.steps kt_56.2 2 rfl ?_
    refine px_PW.callV kt_56.2 rfl rfl rfl rfl (cc_error hw.2.2.1 1 (by decide)) (by decide) (fun v h1 q => ?_)
    obtain ⟨rfl, rfl⟩ := q
    refine px_PW.ret kt_56.2 rfl rfl ?_
    have E : s_hang Z N F thing from_ = ((-1000000000 - 1), Z, N, F) := if_pos c0
    rw [E]
    exact ⟨rfl, _, _, _, px_sc.err, rfl⟩
  · have c0 : ¬ (thing < 0 ∨ (N 1) ≤ thing) := px_b0n (of_decide_eq_false c0)
    refine px_PW.steps kt_56.2 1 rfl ?_
    refine px_PW.callS kt_56.2 rfl rfl rfl (cc_isFrom _ _) (by decide) (fun v h1 q => ?_)
    obtain ⟨rfl, rfl⟩ := q
    refine px_PW.steps kt_56.2 1 rfl ?_
    refine px_PW.br (fun c1 => ?_) (fun c1 => ?_)
    · have c1 : ¬ (from_ < 0 ∨ 4000 < from_) := px_b0n (of_decide_eq_false (px_nt c1))
      refine px_PW.steps kt_56.2 4 rfl ?_
      refine px_PW.callV kt_56.2 rfl rfl rfl rfl (nb_getT (q := 3) (by decide) (hw.lim (by decide)) hT.2.1 c0) (by decide) (fun v h1 q => ?_)
      obtain ⟨rfl, rfl⟩ := q
      refine px_PW.steps kt_56.2 6 rfl ?_
      refine px_PW.callV kt_56.2 rfl rfl rfl rfl (nb_setT (q := 3) (by decide) (hw.lim (by decide)) hT.2.1 c0 _) (by decide) (fun v h1 q => ?_)
      obtain ⟨rfl, rfl⟩ := q
      refine px_PW.steps kt_56.2 1 rfl ?_
      refine px_PW.ret kt_56.2 rfl rfl ?_
      have E : s_hang Z N F thing from_ = (((F 3) (thing).toNatClampNeg), Z, N, (va_up F 3 (upd (F 3) (thing).toNatClampNeg from_))) := (if_neg c0).trans (if_neg c1)
      rw [E]
      exact ⟨rfl, _, _, _, px_sc.rf, rfl⟩
    · have c1 : from_ < 0 ∨ 4000 < from_ := px_b0z (of_decide_eq_true (px_nf c1))
      refine px_PW.steps kt_56.2 2 rfl ?_
      refine px_PW.callV kt_56.2 rfl rfl rfl rfl (cc_error hw.2.2.1 1 (by decide)) (by decide) (fun v h1 q => ?_)
      obtain ⟨rfl, rfl⟩ := q
      refine px_PW.ret kt_56.2 rfl rfl ?_
      have E : s_hang Z N F thing from_ = ((-1000000000 - 1), Z, N, F) := (if_neg c0).trans (if_pos c1)
      rw [E]
      exact ⟨rfl, _, _, _, px_sc.err, rfl⟩
def s_seed (Z N : Nat → Int32) (F : Nat → Nat → Int32) (v : Int32) : Int32 × (Nat → Int32) × (Nat → Int32) × (Nat → Nat → Int32) := ((Z 0), (upd Z 0 v), N, F)
theorem kc_seed {Z N : Nat → Int32} {F : Nat → Nat → Int32} (hw : px_cw N) (v : Int32) : px_PM 1 66 [.ref 0, .int v] (px_CH Z N F, []) (fun r h' => r = some (.int (s_seed Z N F v).1) ∧ ∃ Z' N' F', px_sc (s_seed Z N F v).2.1 (s_seed Z N F v).2.2.1 (s_seed Z N F v).2.2.2 Z' N' F' ∧ h' = (px_CH Z' N' F', [])) := by
  refine px_PM.start (nL := 3) (code := pc_66) rfl rfl ?_
  refine px_PW.steps kt_66.2 7 rfl ?_
  refine px_op_0 kt_66.2 rfl ?_
  refine px_PW.steps kt_66.2 1 rfl ?_
  refine px_PW.ret kt_66.2 rfl rfl ?_
  have E : s_seed Z N F v = ((Z 0), (upd Z 0 v), N, F) := rfl
  rw [E]
  exact ⟨rfl, _, _, _, px_sc.rf, rfl⟩
def s_body (Z N : Nat → Int32) (F : Nat → Nat → Int32) (i : Int32) : Int32 := (if i < 0 ∨ (N 26) ≤ i then (-1000000000 - 2) else (if i < 0 ∨ (N 26) ≤ i then 0 else (F 26) (i).toNatClampNeg))
theorem kc_body {Z N : Nat → Int32} {F : Nat → Nat → Int32} (hw : px_cw N) (i : Int32) : px_PM 3 74 [.ref 0, .int i] (px_CH Z N F, []) (fun r h' => r = some (.int (s_body Z N F i)) ∧ ∃ Z' N' F', px_sc Z N F Z' N' F' ∧ h' = (px_CH Z' N' F', [])) := by
  refine px_PM.start (nL := 2) (code := pc_74) rfl rfl ?_
  refine px_PW.steps kt_74.2 4 rfl ?_
  refine px_PW.callV kt_74.2 rfl rfl rfl rfl (nb_stands (q := 26) (by decide) _) (by decide) (fun v h1 q => ?_)
  obtain ⟨rfl, rfl⟩ := q
  refine px_PW.steps kt_74.2 1 rfl ?_
  refine px_PW.br (fun c0 => ?_) (fun c0 => ?_)
  · have c0 : i < 0 ∨ (N 26) ≤ i := px_b0z (of_decide_eq_true c0)
    refine px_PW.steps kt_74.2 2 rfl ?_
    refine px_PW.callV kt_74.2 rfl rfl rfl rfl (cc_error hw.2.2.1 2 (by decide)) (by decide) (fun v h1 q => ?_)
    obtain ⟨rfl, rfl⟩ := q
    refine px_PW.ret kt_74.2 rfl rfl ?_
    have E : s_body Z N F i = (-1000000000 - 2) := if_pos c0
    rw [E]
    exact ⟨rfl, _, _, _, px_sc.err, rfl⟩
  · have c0 : ¬ (i < 0 ∨ (N 26) ≤ i) := px_b0n (of_decide_eq_false c0)
    refine px_PW.steps kt_74.2 4 rfl ?_
    refine px_PW.callV kt_74.2 rfl rfl rfl rfl (nb_get (q := 26) (by decide) _ (hw.lim (by decide))) (by decide) (fun v h1 q => ?_)
    obtain ⟨rfl, rfl⟩ := q
    refine px_PW.steps kt_74.2 1 rfl ?_
    refine px_PW.ret kt_74.2 rfl rfl ?_
    have E : s_body Z N F i = (if i < 0 ∨ (N 26) ≤ i then 0 else (F 26) (i).toNatClampNeg) := if_neg c0
    rw [E]
    exact ⟨rfl, _, _, _, px_sc.rf, rfl⟩
def s_told (Z N : Nat → Int32) (F : Nat → Nat → Int32) (k : Int32) : Int32 := (if k < 1 then (-1000000000 - 1) else (if k ≤ 6 then (if k < 0 ∨ (N 18) ≤ k then 0 else (F 18) (k).toNatClampNeg) else (-1000000000 - 1)))
theorem kc_told {Z N : Nat → Int32} {F : Nat → Nat → Int32} (hw : px_cw N) (k : Int32) : px_PM 3 85 [.ref 0, .int k] (px_CH Z N F, []) (fun r h' => r = some (.int (s_told Z N F k)) ∧ ∃ Z' N' F', px_sc Z N F Z' N' F' ∧ h' = (px_CH Z' N' F', [])) := by
  refine px_PM.start (nL := 2) (code := pc_85) rfl rfl ?_
  refine px_PW.steps kt_85.2 3 rfl ?_
  refine px_PW.br (fun c0 => ?_) (fun c0 => ?_)
  · have c0 : k < 1 := of_decide_eq_true c0
    refine px_PW.steps kt_85.2 2 rfl ?_
    refine px_PW.callV kt_85.2 rfl rfl rfl rfl (cc_error hw.2.2.1 1 (by decide)) (by decide) (fun v h1 q => ?_)
    obtain ⟨rfl, rfl⟩ := q
    refine px_PW.steps kt_85.2 1 rfl ?_
    refine px_PW.ret kt_85.2 rfl rfl ?_
    have E : s_told Z N F k = (-1000000000 - 1) := if_pos c0
    rw [E]
    exact ⟨rfl, _, _, _, px_sc.err, rfl⟩
  · have c0 : ¬ (k < 1) := of_decide_eq_false c0
    refine px_PW.steps kt_85.2 3 rfl ?_
    refine px_PW.br (fun c1 => ?_) (fun c1 => ?_)
    · have c1 : k ≤ 6 := of_decide_eq_true c1
      refine px_PW.steps kt_85.2 3 rfl ?_
      refine px_PW.callV kt_85.2 rfl rfl rfl rfl (nb_get (q := 18) (by decide) _ (hw.lim (by decide))) (by decide) (fun v h1 q => ?_)
      obtain ⟨rfl, rfl⟩ := q
      refine px_PW.ret kt_85.2 rfl rfl ?_
      have E : s_told Z N F k = (if k < 0 ∨ (N 18) ≤ k then 0 else (F 18) (k).toNatClampNeg) := (if_neg c0).trans (if_pos c1)
      rw [E]
      exact ⟨rfl, _, _, _, px_sc.rf, rfl⟩
    · have c1 : ¬ (k ≤ 6) := of_decide_eq_false c1
      refine px_PW.steps kt_85.2 2 rfl ?_
      refine px_PW.callV kt_85.2 rfl rfl rfl rfl (cc_error hw.2.2.1 1 (by decide)) (by decide) (fun v h1 q => ?_)
      obtain ⟨rfl, rfl⟩ := q
      refine px_PW.steps kt_85.2 1 rfl ?_
      refine px_PW.ret kt_85.2 rfl rfl ?_
      have E : s_told Z N F k = (-1000000000 - 1) := (if_neg c0).trans (if_neg c1)
      rw [E]
      exact ⟨rfl, _, _, _, px_sc.err, rfl⟩
def s_count (Z N : Nat → Int32) (F : Nat → Nat → Int32) (what : Int32) : Int32 := (if what = 0 then (N 1) else (if what = 1 then ((F 0) 6) else (if what = 2 then (N 5) else (if what = 3 then (N 8) else (if what = 4 then (N 26) else (if what = 5 then (Z 0) else (-1000000000 - 1)))))))
theorem px_swd_84_1 {x : Int32} (c0 : ¬ (x = 0)) (c1 : ¬ (x = 1)) (c2 : ¬ (x = 2)) (c3 : ¬ (x = 3)) (c4 : ¬ (x = 4)) (c5 : ¬ (x = 5)) : px_sw 0 [40, 51, 58, 69, 80, 91] 99 x.toInt = 99 := by
  have d0 : ¬ (x.toInt = 0) := fun h => c0 (px_i_of h (by decide +kernel))
  have d1 : ¬ (x.toInt = 1) := fun h => c1 (px_i_of h (by decide +kernel))
  have d2 : ¬ (x.toInt = 2) := fun h => c2 (px_i_of h (by decide +kernel))
  have d3 : ¬ (x.toInt = 3) := fun h => c3 (px_i_of h (by decide +kernel))
  have d4 : ¬ (x.toInt = 4) := fun h => c4 (px_i_of h (by decide +kernel))
  have d5 : ¬ (x.toInt = 5) := fun h => c5 (px_i_of h (by decide +kernel))
  exact px_sw_d (fun y h1 h2 => by
    have h1 : (0 : Int) ≤ y := h1
    have h2 : y < 6 := h2
    rcases (show y = 0 ∨ y = 1 ∨ y = 2 ∨ y = 3 ∨ y = 4 ∨ y = 5 by omega) with rfl | rfl | rfl | rfl | rfl | rfl
    · exact Or.inl (fun h => d0 h)
    · exact Or.inl (fun h => d1 h)
    · exact Or.inl (fun h => d2 h)
    · exact Or.inl (fun h => d3 h)
    · exact Or.inl (fun h => d4 h)
    · exact Or.inl (fun h => d5 h))
theorem kc_count {Z N : Nat → Int32} {F : Nat → Nat → Int32} (hw : px_cw N) (what : Int32) : px_PM 3 84 [.ref 0, .int what] (px_CH Z N F, []) (fun r h' => r = some (.int (s_count Z N F what)) ∧ ∃ Z' N' F', px_sc Z N F Z' N' F' ∧ h' = (px_CH Z' N' F', [])) := by
  refine px_PM.start (nL := 2) (code := pc_84) rfl rfl ?_
  refine px_PW.steps kt_84.2 2 rfl ?_
  by_cases c0 : what = 0
  · refine px_PW.at (pc' := 40) (by rw [c0]; rfl) ?_
    refine px_PW.steps kt_84.2 3 rfl ?_
    refine px_PW.callV kt_84.2 rfl rfl rfl rfl (nb_size (q := 1) (by decide)) (by decide) (fun v h1 q => ?_)
    obtain ⟨rfl, rfl⟩ := q
    refine px_PW.ret kt_84.2 rfl rfl ?_
    have E : s_count Z N F what = (N 1) := if_pos c0
    rw [E]
    exact ⟨rfl, _, _, _, px_sc.rf, rfl⟩
  · skip
    by_cases c1 : what = 1
    · refine px_PW.at (pc' := 51) (by rw [c1]; rfl) ?_
      refine px_PW.steps kt_84.2 2 rfl ?_
      refine px_PW.callV kt_84.2 rfl rfl rfl rfl (cc_is hw.1 6 (by decide)) (by decide) (fun v h1 q => ?_)
      obtain ⟨rfl, rfl⟩ := q
      refine px_PW.ret kt_84.2 rfl rfl ?_
      have E : s_count Z N F what = ((F 0) 6) := (if_neg c0).trans (if_pos c1)
      rw [E]
      exact ⟨rfl, _, _, _, px_sc.rf, rfl⟩
    · skip
      by_cases c2 : what = 2
      · refine px_PW.at (pc' := 58) (by rw [c2]; rfl) ?_
        refine px_PW.steps kt_84.2 3 rfl ?_
        refine px_PW.callV kt_84.2 rfl rfl rfl rfl (nb_size (q := 5) (by decide)) (by decide) (fun v h1 q => ?_)
        obtain ⟨rfl, rfl⟩ := q
        refine px_PW.ret kt_84.2 rfl rfl ?_
        have E : s_count Z N F what = (N 5) := (if_neg c0).trans ((if_neg c1).trans (if_pos c2))
        rw [E]
        exact ⟨rfl, _, _, _, px_sc.rf, rfl⟩
      · skip
        by_cases c3 : what = 3
        · refine px_PW.at (pc' := 69) (by rw [c3]; rfl) ?_
          refine px_PW.steps kt_84.2 3 rfl ?_
          refine px_PW.callV kt_84.2 rfl rfl rfl rfl (nb_size (q := 8) (by decide)) (by decide) (fun v h1 q => ?_)
          obtain ⟨rfl, rfl⟩ := q
          refine px_PW.ret kt_84.2 rfl rfl ?_
          have E : s_count Z N F what = (N 8) := (if_neg c0).trans ((if_neg c1).trans ((if_neg c2).trans (if_pos c3)))
          rw [E]
          exact ⟨rfl, _, _, _, px_sc.rf, rfl⟩
        · skip
          by_cases c4 : what = 4
          · refine px_PW.at (pc' := 80) (by rw [c4]; rfl) ?_
            refine px_PW.steps kt_84.2 3 rfl ?_
            refine px_PW.callV kt_84.2 rfl rfl rfl rfl (nb_size (q := 26) (by decide)) (by decide) (fun v h1 q => ?_)
            obtain ⟨rfl, rfl⟩ := q
            refine px_PW.ret kt_84.2 rfl rfl ?_
            have E : s_count Z N F what = (N 26) := (if_neg c0).trans ((if_neg c1).trans ((if_neg c2).trans ((if_neg c3).trans (if_pos c4))))
            rw [E]
            exact ⟨rfl, _, _, _, px_sc.rf, rfl⟩
          · skip
            by_cases c5 : what = 5
            · refine px_PW.at (pc' := 91) (by rw [c5]; rfl) ?_
              refine px_PW.steps kt_84.2 3 rfl ?_
              refine px_PW.ret kt_84.2 rfl rfl ?_
              have E : s_count Z N F what = (Z 0) := (if_neg c0).trans ((if_neg c1).trans ((if_neg c2).trans ((if_neg c3).trans ((if_neg c4).trans (if_pos c5)))))
              rw [E]
              exact ⟨rfl, _, _, _, px_sc.rf, rfl⟩
            · skip
              refine px_PW.at (px_swd_84_1 c0 c1 c2 c3 c4 c5) ?_
              refine px_PW.steps kt_84.2 2 rfl ?_
              refine px_PW.callV kt_84.2 rfl rfl rfl rfl (cc_error hw.2.2.1 1 (by decide)) (by decide) (fun v h1 q => ?_)
              obtain ⟨rfl, rfl⟩ := q
              refine px_PW.ret kt_84.2 rfl rfl ?_
              have E : s_count Z N F what = (-1000000000 - 1) := (if_neg c0).trans ((if_neg c1).trans ((if_neg c2).trans ((if_neg c3).trans ((if_neg c4).trans (if_neg c5)))))
              rw [E]
              exact ⟨rfl, _, _, _, px_sc.err, rfl⟩
end
/-! part 27.mpub -/
section
def i_held (v lo hi : Int32) : Int32 := if lo ≤ v then (if v ≤ hi then v else hi) else lo
theorem px_ix {t w : Int32} {n k : Nat} (h : t = nI n) (hw : w = nI k) : 12 + 4 * t + w = nI (12 + 4 * n + k) := by
  subst h hw
  show Int32.ofNat 12 + Int32.ofNat 4 * Int32.ofNat n + Int32.ofNat k = Int32.ofNat (12 + 4 * n + k)
  rw [Int32.ofNat_add, Int32.ofNat_add, Int32.ofNat_mul]
theorem px_thN {x t : Int32} {M : Nat} (hM : x = nI M) (hM6 : M ≤ 6) (c : 0 ≤ t ∧ t ≤ x - 1) : t = nI t.toNatClampNeg ∧ t.toNatClampNeg < M ∧ t.toNatClampNeg < 6 := by
  obtain ⟨n, hn, rfl⟩ := nI_of (Int32.not_lt.mpr c.1)
  have c2 := c.2
  rw [nI_clamp (by omega)]
  subst hM
  cases M with
  | zero =>
    have h1 : nI 0 - 1 = (-1 : Int32) := by decide
    rw [h1, Int32.le_iff_toInt_le, nI_toInt (by omega)] at c2
    have h2 : (-1 : Int32).toInt = -1 := by decide
    omega
  | succ M =>
    rw [nI_pred, nI_leI (by omega) (by omega)] at c2
    exact ⟨rfl, by omega, by omega⟩
theorem mm_error {Z : Nat → Int32} {F : Nat → Nat → Int32} (k : Nat) (hk : k < 7)  : px_PM 1 116 [.ref 1000, .int (Int32.ofNat k)] ([], px_MH Z F) (fun r h' => r = some (.int (-1000000000 - Int32.ofNat k)) ∧ h' = ([], px_MH Z (va_up F 2 (upd (F 2) k (F 2 k + 1))))) := by
  refine px_PM.start (nL := 2) (code := pc_116) rfl rfl ?_
  refine px_PW.steps kt_116.2 4 rfl ?_
  refine px_PW.aldN kt_116.2 rfl rfl (n := k) rfl (by omega) ?_
  refine px_PW.steps kt_116.2 2 rfl ?_
  refine ms_2 kt_116.2 rfl (n := k) rfl (by omega) ?_
  refine px_PW.steps kt_116.2 3 rfl ?_
  refine px_PW.ret kt_116.2 rfl rfl ?_
  exact ⟨rfl, rfl⟩
theorem mm_held   (v lo hi : Int32) (h : px_H) : px_PM 1 118 [.int v, .int lo, .int hi] h (fun r h' => r = some (.int (i_held v lo hi)) ∧ h' = h) := by
  refine px_PM.start (nL := 3) (code := pc_118) rfl rfl ?_
  refine px_PW.steps kt_118.2 3 rfl ?_
  refine px_PW.br (fun c0 => ?_) (fun c0 => ?_)
  · have c0 : lo ≤ v := of_decide_eq_true c0
    refine px_PW.steps kt_118.2 3 rfl ?_
    refine px_PW.br (fun c1 => ?_) (fun c1 => ?_)
    · have c1 : v ≤ hi := of_decide_eq_true c1
      refine px_PW.steps kt_118.2 1 rfl ?_
      refine px_PW.ret kt_118.2 rfl rfl ?_
      exact ⟨congrArg (fun z => some (Value.int z)) (show i_held v lo hi = _ from (if_pos c0).trans (if_pos c1)).symm, rfl⟩
    · have c1 : ¬ (v ≤ hi) := of_decide_eq_false c1
      refine px_PW.steps kt_118.2 2 rfl ?_
      refine px_PW.ret kt_118.2 rfl rfl ?_
      exact ⟨congrArg (fun z => some (Value.int z)) (show i_held v lo hi = _ from (if_pos c0).trans (if_neg c1)).symm, rfl⟩
  · have c0 : ¬ (lo ≤ v) := of_decide_eq_false c0
    refine px_PW.steps kt_118.2 2 rfl ?_
    refine px_PW.ret kt_118.2 rfl rfl ?_
    exact ⟨congrArg (fun z => some (Value.int z)) (show i_held v lo hi = _ from if_neg c0).symm, rfl⟩
theorem mm_isThing {Z : Nat → Int32} {F : Nat → Nat → Int32}  (t : Int32) : px_PM 2 120 [.ref 1000, .int t] ([], px_MH Z F) (fun r h' => r = some (.int (if 0 ≤ t ∧ t ≤ F 0 10 - 1 then 1 else 0)) ∧ h' = ([], px_MH Z F)) := by
  refine px_PM.start (nL := 2) (code := pc_120) rfl rfl ?_
  refine px_PW.steps kt_120.2 5 rfl ?_
  refine px_PW.steps kt_120.2 1 rfl ?_
  refine px_PW.steps kt_120.2 2 rfl ?_
  refine px_PW.callS kt_120.2 rfl rfl rfl (cm_117 _ _ _ _) (by decide) (fun v h1 q => ?_)
  obtain ⟨rfl, rfl⟩ := q
  refine px_PW.retB kt_120.2 rfl px_zb1 ?_
  exact ⟨rfl, rfl⟩
theorem mm_isRow {Z : Nat → Int32} {F : Nat → Nat → Int32}  (t : Int32) : px_PM 2 121 [.ref 1000, .int t] ([], px_MH Z F) (fun r h' => r = some (.int (if 0 ≤ t ∧ t ≤ F 0 4 - 1 then 1 else 0)) ∧ h' = ([], px_MH Z F)) := by
  refine px_PM.start (nL := 2) (code := pc_121) rfl rfl ?_
  refine px_PW.steps kt_121.2 5 rfl ?_
  refine px_PW.steps kt_121.2 1 rfl ?_
  refine px_PW.steps kt_121.2 2 rfl ?_
  refine px_PW.callS kt_121.2 rfl rfl rfl (cm_117 _ _ _ _) (by decide) (fun v h1 q => ?_)
  obtain ⟨rfl, rfl⟩ := q
  refine px_PW.retB kt_121.2 rfl px_zb1 ?_
  exact ⟨rfl, rfl⟩
theorem mm_isKind   (t : Int32) (h : px_H) : px_PM 2 161 [.int t] h (fun r h' => r = some (.int (if 0 ≤ t ∧ t ≤ 69 then 1 else 0)) ∧ h' = h) := by
  refine px_PM.start (nL := 1) (code := pc_161) rfl rfl ?_
  refine px_PW.steps kt_161.2 3 rfl ?_
  refine px_PW.callS kt_161.2 rfl rfl rfl (cm_117 _ _ _ _) (by decide) (fun v h1 q => ?_)
  obtain ⟨rfl, rfl⟩ := q
  refine px_PW.retB kt_161.2 rfl px_zb1 ?_
  exact ⟨rfl, rfl⟩
theorem mm_isSheet   (t : Int32) (h : px_H) : px_PM 2 194 [.int t] h (fun r h' => r = some (.int (if 0 ≤ t ∧ t ≤ 3 then 1 else 0)) ∧ h' = h) := by
  refine px_PM.start (nL := 1) (code := pc_194) rfl rfl ?_
  refine px_PW.steps kt_194.2 3 rfl ?_
  refine px_PW.callS kt_194.2 rfl rfl rfl (cm_117 _ _ _ _) (by decide) (fun v h1 q => ?_)
  obtain ⟨rfl, rfl⟩ := q
  refine px_PW.retB kt_194.2 rfl px_zb1 ?_
  exact ⟨rfl, rfl⟩
theorem mm_its {Z : Nat → Int32} {F : Nat → Nat → Int32} {n k : Nat} {t x : Int32} (ht : t = nI n) (hx : x = nI k) (hn : n < 6) (hk : k < 4) : px_PM 1 122 [.ref 1000, .int t, .int x] ([], px_MH Z F) (fun r h' => r = some (.int (F 0 (12 + 4 * n + k))) ∧ h' = ([], px_MH Z F)) := by
  refine px_PM.start (nL := 3) (code := pc_122) rfl rfl ?_
  refine px_PW.steps kt_122.2 9 rfl ?_
  refine px_PW.aldN kt_122.2 rfl rfl (n := 12 + 4 * n + k) (px_ix ht hx) (by omega) ?_
  refine px_PW.ret kt_122.2 rfl rfl ?_
  exact ⟨rfl, rfl⟩
theorem mm_lays1 {Z : Nat → Int32} {F : Nat → Nat → Int32} {n k : Nat} {t x : Int32} (ht : t = nI n) (hx : x = nI k) (hn : n < 6) (hk : k < 4) (v : Int32) : px_PM 1 123 [.ref 1000, .int t, .int x, .int v] ([], px_MH Z F) (fun r h' => r = none ∧ h' = ([], px_MH Z (va_up F 0 (upd (F 0) (12 + 4 * n + k) v)))) := by
  refine px_PM.start (nL := 4) (code := pc_123) rfl rfl ?_
  refine px_PW.steps kt_123.2 10 rfl ?_
  refine ms_0 kt_123.2 rfl (n := 12 + 4 * n + k) (px_ix ht hx) (by omega) ?_
  refine px_PW.ret kt_123.2 rfl rfl ?_
  exact ⟨rfl, rfl⟩
theorem mm_change1 {Z : Nat → Int32} {F : Nat → Nat → Int32} {n : Nat} {t : Int32} (ht : t = nI n) (hn : n < 370) (v : Int32) : px_PM 1 124 [.ref 1000, .int t, .int v] ([], px_MH Z F) (fun r h' => r = some (.int (F 0 n)) ∧ h' = ([], px_MH Z (va_up F 0 (upd (F 0) n v)))) := by
  refine px_PM.start (nL := 4) (code := pc_124) rfl rfl ?_
  refine px_PW.steps kt_124.2 3 rfl ?_
  refine px_PW.aldN kt_124.2 rfl rfl (n := n) ht hn ?_
  refine px_PW.steps kt_124.2 5 rfl ?_
  refine ms_0 kt_124.2 rfl (n := n) ht hn ?_
  refine px_PW.steps kt_124.2 1 rfl ?_
  refine px_PW.ret kt_124.2 rfl rfl ?_
  exact ⟨rfl, rfl⟩
theorem px_in5 {i : Int32} {n : Nat} (hn : n < 1000) (c : 0 ≤ i ∧ i ≤ nI n) : i = nI i.toNatClampNeg ∧ i.toNatClampNeg < n + 1 := by
  obtain ⟨k, hk, rfl⟩ := nI_of (Int32.not_lt.mpr c.1)
  have c2 := c.2
  rw [nI_leI (by omega) (by omega)] at c2
  rw [nI_clamp (by omega)]
  exact ⟨rfl, by omega⟩
def s_mwall (Z : Nat → Int32) (F : Nat → Nat → Int32) (what : Int32) (v : Int32) : Int32 × (Nat → Int32) × (Nat → Nat → Int32) := (if 0 ≤ what ∧ what ≤ 5 then (if ((F 3) what.toNatClampNeg) ≤ v ∧ v ≤ ((F 4) what.toNatClampNeg) then (if what = 1 then (((upd (F 0) 6 v) (what.toNatClampNeg)), Z, (va_up (va_up F 0 (upd (F 0) 6 v)) 0 (upd (upd (F 0) 6 v) (what.toNatClampNeg) v))) else (((upd (F 0) 6 ((F 0) 6)) (what.toNatClampNeg)), Z, (va_up (va_up F 0 (upd (F 0) 6 ((F 0) 6))) 0 (upd (upd (F 0) 6 ((F 0) 6)) (what.toNatClampNeg) v)))) else ((-1000000000 - 1), Z, F)) else ((-1000000000 - 1), Z, F))
theorem kc_mwall {Z : Nat → Int32} {F : Nat → Nat → Int32}  (what : Int32) (v : Int32) : px_PM 2 158 [.ref 1000, .int what, .int v] ([], px_MH Z F) (fun r h' => r = some (.int (s_mwall Z F what v).1) ∧ ∃ Z' F', px_sm (s_mwall Z F what v).2.1 (s_mwall Z F what v).2.2 Z' F' ∧ h' = ([], px_MH Z' F')) := by
  refine px_PM.start (nL := 3) (code := pc_158) rfl rfl ?_
  refine px_PW.steps kt_158.2 3 rfl ?_
  refine px_PW.callS kt_158.2 rfl rfl rfl (cm_117 _ _ _ _) (by decide) (fun v h1 q => ?_)
  obtain ⟨rfl, rfl⟩ := q
  refine px_PW.steps kt_158.2 1 rfl ?_
  refine px_PW.br (fun c0 => ?_) (fun c0 => ?_)
  · have c0 : ¬ (0 ≤ what ∧ what ≤ 5) := px_b1z (of_decide_eq_true c0)
    refine px_PW.steps kt_158.2 2 rfl ?_
    refine px_PW.callV kt_158.2 rfl rfl rfl rfl (mm_error 1 (by decide)) (by decide) (fun v h1 q => ?_)
    obtain ⟨rfl, rfl⟩ := q
    refine px_PW.ret kt_158.2 rfl rfl ?_
    have E : s_mwall Z F what v = ((-1000000000 - 1), Z, F) := if_neg c0
    rw [E]
    exact ⟨rfl, _, _, px_sm.err, rfl⟩
  · have c0 : 0 ≤ what ∧ what ≤ 5 := px_b1n (of_decide_eq_false c0)
    refine px_PW.steps kt_158.2 4 rfl ?_
    refine px_PW.aldN kt_158.2 rfl rfl (n := what.toNatClampNeg) (px_in5 (n := 5) (by decide) c0).1 (Nat.lt_of_lt_of_le (px_in5 (n := 5) (by decide) c0).2 (by decide)) ?_
    refine px_PW.steps kt_158.2 3 rfl ?_
    refine px_PW.aldN kt_158.2 rfl rfl (n := what.toNatClampNeg) (px_in5 (n := 5) (by decide) c0).1 (Nat.lt_of_lt_of_le (px_in5 (n := 5) (by decide) c0).2 (by decide)) ?_
    refine px_PW.callS kt_158.2 rfl rfl rfl (cm_117 _ _ _ _) (by decide) (fun v h1 q => ?_)
    obtain ⟨rfl, rfl⟩ := q
    refine px_PW.steps kt_158.2 1 rfl ?_
    refine px_PW.br (fun c1 => ?_) (fun c1 => ?_)
    · have c1 : ((F 3) what.toNatClampNeg) ≤ v ∧ v ≤ ((F 4) what.toNatClampNeg) := px_b1n (of_decide_eq_false (px_nt c1))
      refine px_PW.steps kt_158.2 6 rfl ?_
      refine px_PW.br (fun c2 => ?_) (fun c2 => ?_)
      · have c2 : ¬ (what = 1) := of_decide_eq_false (px_nt c2)
        refine px_PW.steps kt_158.2 3 rfl ?_
        refine px_PW.steps kt_158.2 1 rfl ?_
        refine ms_0 kt_158.2 rfl (n := 6) rfl (by decide) ?_
        refine px_PW.steps kt_158.2 3 rfl ?_
        refine px_PW.callV kt_158.2 rfl rfl rfl rfl (mm_change1 (n := what.toNatClampNeg) (px_in5 (n := 5) (by decide) c0).1 (Nat.lt_of_lt_of_le (px_in5 (n := 5) (by decide) c0).2 (by decide)) _) (by decide) (fun v h1 q => ?_)
        obtain ⟨rfl, rfl⟩ := q
        refine px_PW.ret kt_158.2 rfl rfl ?_
        have E : s_mwall Z F what v = (((upd (F 0) 6 ((F 0) 6)) (what.toNatClampNeg)), Z, (va_up (va_up F 0 (upd (F 0) 6 ((F 0) 6))) 0 (upd (upd (F 0) 6 ((F 0) 6)) (what.toNatClampNeg) v))) := (if_pos c0).trans ((if_pos c1).trans (if_neg c2))
        rw [E]
        exact ⟨rfl, _, _, px_sm.rf, rfl⟩
      · have c2 : what = 1 := of_decide_eq_true (px_nf c2)
        refine px_PW.steps kt_158.2 2 rfl ?_
        refine ms_0 kt_158.2 rfl (n := 6) rfl (by decide) ?_
        refine px_PW.steps kt_158.2 3 rfl ?_
        refine px_PW.callV kt_158.2 rfl rfl rfl rfl (mm_change1 (n := what.toNatClampNeg) (px_in5 (n := 5) (by decide) c0).1 (Nat.lt_of_lt_of_le (px_in5 (n := 5) (by decide) c0).2 (by decide)) _) (by decide) (fun v h1 q => ?_)
        obtain ⟨rfl, rfl⟩ := q
        refine px_PW.ret kt_158.2 rfl rfl ?_
        have E : s_mwall Z F what v = (((upd (F 0) 6 v) (what.toNatClampNeg)), Z, (va_up (va_up F 0 (upd (F 0) 6 v)) 0 (upd (upd (F 0) 6 v) (what.toNatClampNeg) v))) := (if_pos c0).trans ((if_pos c1).trans (if_pos c2))
        rw [E]
        exact ⟨rfl, _, _, px_sm.rf, rfl⟩
    · have c1 : ¬ (((F 3) what.toNatClampNeg) ≤ v ∧ v ≤ ((F 4) what.toNatClampNeg)) := px_b1z (of_decide_eq_true (px_nf c1))
      refine px_PW.steps kt_158.2 2 rfl ?_
      refine px_PW.callV kt_158.2 rfl rfl rfl rfl (mm_error 1 (by decide)) (by decide) (fun v h1 q => ?_)
      obtain ⟨rfl, rfl⟩ := q
      refine px_PW.ret kt_158.2 rfl rfl ?_
      have E : s_mwall Z F what v = ((-1000000000 - 1), Z, F) := (if_pos c0).trans (if_neg c1)
      rw [E]
      exact ⟨rfl, _, _, px_sm.err, rfl⟩
def s_mwallIs (Z : Nat → Int32) (F : Nat → Nat → Int32) (what : Int32) : Int32 := (if 0 ≤ what ∧ what ≤ 6 then ((F 0) what.toNatClampNeg) else (-1000000000 - 1))
theorem kc_mwallIs {Z : Nat → Int32} {F : Nat → Nat → Int32}  (what : Int32) : px_PM 2 159 [.ref 1000, .int what] ([], px_MH Z F) (fun r h' => r = some (.int (s_mwallIs Z F what)) ∧ ∃ Z' F', px_sm Z F Z' F' ∧ h' = ([], px_MH Z' F')) := by
  refine px_PM.start (nL := 2) (code := pc_159) rfl rfl ?_
  refine px_PW.steps kt_159.2 3 rfl ?_
  refine px_PW.callS kt_159.2 rfl rfl rfl (cm_117 _ _ _ _) (by decide) (fun v h1 q => ?_)
  obtain ⟨rfl, rfl⟩ := q
  refine px_PW.steps kt_159.2 1 rfl ?_
  refine px_PW.br (fun c0 => ?_) (fun c0 => ?_)
  · have c0 : ¬ (0 ≤ what ∧ what ≤ 6) := px_b1z (of_decide_eq_true c0)
    refine px_PW.steps kt_159.2 2 rfl ?_
    refine px_PW.callV kt_159.2 rfl rfl rfl rfl (mm_error 1 (by decide)) (by decide) (fun v h1 q => ?_)
    obtain ⟨rfl, rfl⟩ := q
    refine px_PW.ret kt_159.2 rfl rfl ?_
    have E : s_mwallIs Z F what = (-1000000000 - 1) := if_neg c0
    rw [E]
    exact ⟨rfl, _, _, px_sm.err, rfl⟩
  · have c0 : 0 ≤ what ∧ what ≤ 6 := px_b1n (of_decide_eq_false c0)
    refine px_PW.steps kt_159.2 3 rfl ?_
    refine px_PW.aldN kt_159.2 rfl rfl (n := what.toNatClampNeg) (px_in5 (n := 6) (by decide) c0).1 (Nat.lt_of_lt_of_le (px_in5 (n := 6) (by decide) c0).2 (by decide)) ?_
    refine px_PW.steps kt_159.2 1 rfl ?_
    refine px_PW.ret kt_159.2 rfl rfl ?_
    have E : s_mwallIs Z F what = ((F 0) what.toNatClampNeg) := if_pos c0
    rw [E]
    exact ⟨rfl, _, _, px_sm.rf, rfl⟩
def s_mbegin (Z : Nat → Int32) (F : Nat → Nat → Int32) (first : Int32) : Int32 × (Nat → Int32) × (Nat → Nat → Int32) := (if 1 ≤ first ∧ first ≤ ((F 0) 1) then (((F 0) (6)), Z, (va_up F 0 (upd (F 0) (6) first))) else ((-1000000000 - 1), Z, F))
theorem kc_mbegin {Z : Nat → Int32} {F : Nat → Nat → Int32}  (first : Int32) : px_PM 2 160 [.ref 1000, .int first] ([], px_MH Z F) (fun r h' => r = some (.int (s_mbegin Z F first).1) ∧ ∃ Z' F', px_sm (s_mbegin Z F first).2.1 (s_mbegin Z F first).2.2 Z' F' ∧ h' = ([], px_MH Z' F')) := by
  refine px_PM.start (nL := 2) (code := pc_160) rfl rfl ?_
  refine px_PW.steps kt_160.2 5 rfl ?_
  refine px_PW.steps kt_160.2 1 rfl ?_
  refine px_PW.callS kt_160.2 rfl rfl rfl (cm_117 _ _ _ _) (by decide) (fun v h1 q => ?_)
  obtain ⟨rfl, rfl⟩ := q
  refine px_PW.steps kt_160.2 1 rfl ?_
  refine px_PW.br (fun c0 => ?_) (fun c0 => ?_)
  · have c0 : ¬ (1 ≤ first ∧ first ≤ ((F 0) 1)) := px_b1z (of_decide_eq_true c0)
    refine px_PW.steps kt_160.2 2 rfl ?_
    refine px_PW.callV kt_160.2 rfl rfl rfl rfl (mm_error 1 (by decide)) (by decide) (fun v h1 q => ?_)
    obtain ⟨rfl, rfl⟩ := q
    refine px_PW.ret kt_160.2 rfl rfl ?_
    have E : s_mbegin Z F first = ((-1000000000 - 1), Z, F) := if_neg c0
    rw [E]
    exact ⟨rfl, _, _, px_sm.err, rfl⟩
  · have c0 : 1 ≤ first ∧ first ≤ ((F 0) 1) := px_b1n (of_decide_eq_false c0)
    refine px_PW.steps kt_160.2 3 rfl ?_
    refine px_PW.callV kt_160.2 rfl rfl rfl rfl (mm_change1 (n := 6) rfl (by decide) _) (by decide) (fun v h1 q => ?_)
    obtain ⟨rfl, rfl⟩ := q
    refine px_PW.steps kt_160.2 1 rfl ?_
    refine px_PW.ret kt_160.2 rfl rfl ?_
    have E : s_mbegin Z F first = (((F 0) (6)), Z, (va_up F 0 (upd (F 0) (6) first))) := if_pos c0
    rw [E]
    exact ⟨rfl, _, _, px_sm.rf, rfl⟩
def s_mthingIs (Z : Nat → Int32) (F : Nat → Nat → Int32) (thing : Int32) (what : Int32) : Int32 := (if 0 ≤ thing ∧ thing ≤ ((F 0) 10) - 1 then (if 0 ≤ what ∧ what ≤ 3 then ((F 0) (12 + 4 * thing.toNatClampNeg + what.toNatClampNeg)) else (-1000000000 - 1)) else (-1000000000 - 1))
theorem kc_mthingIs {Z : Nat → Int32} {F : Nat → Nat → Int32} {M : Nat} (hM : F 0 10 = nI M) (hM6 : M ≤ 6) (thing : Int32) (what : Int32) : px_PM 3 163 [.ref 1000, .int thing, .int what] ([], px_MH Z F) (fun r h' => r = some (.int (s_mthingIs Z F thing what)) ∧ ∃ Z' F', px_sm Z F Z' F' ∧ h' = ([], px_MH Z' F')) := by
  refine px_PM.start (nL := 3) (code := pc_163) rfl rfl ?_
  refine px_PW.steps kt_163.2 2 rfl ?_
  refine px_PW.callV kt_163.2 rfl rfl rfl rfl (mm_isThing _) (by decide) (fun v h1 q => ?_)
  obtain ⟨rfl, rfl⟩ := q
  refine px_PW.steps kt_163.2 1 rfl ?_
  refine px_PW.br (fun c0 => ?_) (fun c0 => ?_)
  · have c0 : ¬ (0 ≤ thing ∧ thing ≤ ((F 0) 10) - 1) := px_b1z (of_decide_eq_true c0)
    refine px_PW.steps kt_163.2 2 rfl ?_
    refine px_PW.callV kt_163.2 rfl rfl rfl rfl (mm_error 1 (by decide)) (by decide) (fun v h1 q => ?_)
    obtain ⟨rfl, rfl⟩ := q
    refine px_PW.ret kt_163.2 rfl rfl ?_
    have E : s_mthingIs Z F thing what = (-1000000000 - 1) := if_neg c0
    rw [E]
    exact ⟨rfl, _, _, px_sm.err, rfl⟩
  · have c0 : 0 ≤ thing ∧ thing ≤ ((F 0) 10) - 1 := px_b1n (of_decide_eq_false c0)
    refine px_PW.steps kt_163.2 3 rfl ?_
    refine px_PW.callS kt_163.2 rfl rfl rfl (cm_117 _ _ _ _) (by decide) (fun v h1 q => ?_)
    obtain ⟨rfl, rfl⟩ := q
    refine px_PW.steps kt_163.2 1 rfl ?_
    refine px_PW.br (fun c1 => ?_) (fun c1 => ?_)
    · have c1 : ¬ (0 ≤ what ∧ what ≤ 3) := px_b1z (of_decide_eq_true c1)
      refine px_PW.steps kt_163.2 2 rfl ?_
      refine px_PW.callV kt_163.2 rfl rfl rfl rfl (mm_error 1 (by decide)) (by decide) (fun v h1 q => ?_)
      obtain ⟨rfl, rfl⟩ := q
      refine px_PW.ret kt_163.2 rfl rfl ?_
      have E : s_mthingIs Z F thing what = (-1000000000 - 1) := (if_pos c0).trans (if_neg c1)
      rw [E]
      exact ⟨rfl, _, _, px_sm.err, rfl⟩
    · have c1 : 0 ≤ what ∧ what ≤ 3 := px_b1n (of_decide_eq_false c1)
      refine px_PW.steps kt_163.2 3 rfl ?_
      refine px_PW.callV kt_163.2 rfl rfl rfl rfl (mm_its (n := thing.toNatClampNeg) (k := what.toNatClampNeg) (px_thN hM hM6 c0).1 (px_in5 (n := 3) (by decide) c1).1 (px_thN hM hM6 c0).2.2 (px_in5 (n := 3) (by decide) c1).2) (by decide) (fun v h1 q => ?_)
      obtain ⟨rfl, rfl⟩ := q
      refine px_PW.steps kt_163.2 1 rfl ?_
      refine px_PW.ret kt_163.2 rfl rfl ?_
      have E : s_mthingIs Z F thing what = ((F 0) (12 + 4 * thing.toNatClampNeg + what.toNatClampNeg)) := (if_pos c0).trans (if_pos c1)
      rw [E]
      exact ⟨rfl, _, _, px_sm.rf, rfl⟩
def s_mbecome (Z : Nat → Int32) (F : Nat → Nat → Int32) (thing : Int32) (km : Int32) : Int32 × (Nat → Int32) × (Nat → Nat → Int32) := (if 0 ≤ thing ∧ thing ≤ ((F 0) 10) - 1 then (if 0 ≤ km ∧ km ≤ 69 then (((upd (F 0) (12 + 4 * thing.toNatClampNeg + 1) (km - km / 10 * 10)) (12 + 4 * thing.toNatClampNeg + 0)), Z, (va_up (va_up F 0 (upd (F 0) (12 + 4 * thing.toNatClampNeg + 1) (km - km / 10 * 10))) 0 (upd (upd (F 0) (12 + 4 * thing.toNatClampNeg + 1) (km - km / 10 * 10)) (12 + 4 * thing.toNatClampNeg + 0) (km / 10)))) else ((-1000000000 - 1), Z, F)) else ((-1000000000 - 1), Z, F))
theorem kc_mbecome {Z : Nat → Int32} {F : Nat → Nat → Int32} {M : Nat} (hM : F 0 10 = nI M) (hM6 : M ≤ 6) (thing : Int32) (km : Int32) : px_PM 3 164 [.ref 1000, .int thing, .int km] ([], px_MH Z F) (fun r h' => r = some (.int (s_mbecome Z F thing km).1) ∧ ∃ Z' F', px_sm (s_mbecome Z F thing km).2.1 (s_mbecome Z F thing km).2.2 Z' F' ∧ h' = ([], px_MH Z' F')) := by
  refine px_PM.start (nL := 3) (code := pc_164) rfl rfl ?_
  refine px_PW.steps kt_164.2 2 rfl ?_
  refine px_PW.callV kt_164.2 rfl rfl rfl rfl (mm_isThing _) (by decide) (fun v h1 q => ?_)
  obtain ⟨rfl, rfl⟩ := q
  refine px_PW.steps kt_164.2 1 rfl ?_
  refine px_PW.br (fun c0 => ?_) (fun c0 => ?_)
  · have c0 : ¬ (0 ≤ thing ∧ thing ≤ ((F 0) 10) - 1) := px_b1z (of_decide_eq_true c0)
    refine px_PW.steps kt_164.2 2 rfl ?_
    refine px_PW.callV kt_164.2 rfl rfl rfl rfl (mm_error 1 (by decide)) (by decide) (fun v h1 q => ?_)
    obtain ⟨rfl, rfl⟩ := q
    refine px_PW.ret kt_164.2 rfl rfl ?_
    have E : s_mbecome Z F thing km = ((-1000000000 - 1), Z, F) := if_neg c0
    rw [E]
    exact ⟨rfl, _, _, px_sm.err, rfl⟩
  · have c0 : 0 ≤ thing ∧ thing ≤ ((F 0) 10) - 1 := px_b1n (of_decide_eq_false c0)
    refine px_PW.steps kt_164.2 1 rfl ?_
    refine px_PW.callS kt_164.2 rfl rfl rfl (mm_isKind _ _) (by decide) (fun v h1 q => ?_)
    obtain ⟨rfl, rfl⟩ := q
    refine px_PW.steps kt_164.2 1 rfl ?_
    refine px_PW.br (fun c1 => ?_) (fun c1 => ?_)
    · have c1 : 0 ≤ km ∧ km ≤ 69 := px_b1n (of_decide_eq_false (px_nt c1))
      refine px_PW.steps kt_164.2 6 rfl ?_
      refine px_PW.callV kt_164.2 rfl rfl rfl rfl (mm_lays1 (n := thing.toNatClampNeg) (k := 1) (px_thN hM hM6 c0).1 rfl (px_thN hM hM6 c0).2.2 (by omega) _) (by decide) (fun v h1 q => ?_)
      obtain ⟨rfl, rfl⟩ := q
      refine px_PW.steps kt_164.2 11 rfl ?_
      refine px_PW.callV kt_164.2 rfl rfl rfl rfl (mm_change1 (n := 12 + 4 * thing.toNatClampNeg + 0) (px_ix (px_thN hM hM6 c0).1 rfl) (by have := (px_thN hM hM6 c0).2.2; omega) _) (by decide) (fun v h1 q => ?_)
      obtain ⟨rfl, rfl⟩ := q
      refine px_PW.ret kt_164.2 rfl rfl ?_
      have E : s_mbecome Z F thing km = (((upd (F 0) (12 + 4 * thing.toNatClampNeg + 1) (km - km / 10 * 10)) (12 + 4 * thing.toNatClampNeg + 0)), Z, (va_up (va_up F 0 (upd (F 0) (12 + 4 * thing.toNatClampNeg + 1) (km - km / 10 * 10))) 0 (upd (upd (F 0) (12 + 4 * thing.toNatClampNeg + 1) (km - km / 10 * 10)) (12 + 4 * thing.toNatClampNeg + 0) (km / 10)))) := (if_pos c0).trans (if_pos c1)
      rw [E]
      exact ⟨rfl, _, _, px_sm.rf, rfl⟩
    · have c1 : ¬ (0 ≤ km ∧ km ≤ 69) := px_b1z (of_decide_eq_true (px_nf c1))
      refine px_PW.steps kt_164.2 2 rfl ?_
      refine px_PW.callV kt_164.2 rfl rfl rfl rfl (mm_error 1 (by decide)) (by decide) (fun v h1 q => ?_)
      obtain ⟨rfl, rfl⟩ := q
      refine px_PW.ret kt_164.2 rfl rfl ?_
      have E : s_mbecome Z F thing km = ((-1000000000 - 1), Z, F) := (if_pos c0).trans (if_neg c1)
      rw [E]
      exact ⟨rfl, _, _, px_sm.err, rfl⟩
def s_mhang (Z : Nat → Int32) (F : Nat → Nat → Int32) (thing : Int32) (from_ : Int32) : Int32 × (Nat → Int32) × (Nat → Nat → Int32) := (if 0 ≤ thing ∧ thing ≤ ((F 0) 10) - 1 then (if 0 ≤ from_ ∧ from_ ≤ 4000 then (((F 0) (12 + 4 * thing.toNatClampNeg + 2)), Z, (va_up F 0 (upd (F 0) (12 + 4 * thing.toNatClampNeg + 2) from_))) else ((-1000000000 - 1), Z, F)) else ((-1000000000 - 1), Z, F))
theorem kc_mhang {Z : Nat → Int32} {F : Nat → Nat → Int32} {M : Nat} (hM : F 0 10 = nI M) (hM6 : M ≤ 6) (thing : Int32) (from_ : Int32) : px_PM 3 166 [.ref 1000, .int thing, .int from_] ([], px_MH Z F) (fun r h' => r = some (.int (s_mhang Z F thing from_).1) ∧ ∃ Z' F', px_sm (s_mhang Z F thing from_).2.1 (s_mhang Z F thing from_).2.2 Z' F' ∧ h' = ([], px_MH Z' F')) := by
  refine px_PM.start (nL := 3) (code := pc_166) rfl rfl ?_
  refine px_PW.steps kt_166.2 2 rfl ?_
  refine px_PW.callV kt_166.2 rfl rfl rfl rfl (mm_isThing _) (by decide) (fun v h1 q => ?_)
  obtain ⟨rfl, rfl⟩ := q
  refine px_PW.steps kt_166.2 1 rfl ?_
  refine px_PW.br (fun c0 => ?_) (fun c0 => ?_)
  · have c0 : ¬ (0 ≤ thing ∧ thing ≤ ((F 0) 10) - 1) := px_b1z (of_decide_eq_true c0)
    refine px_PW.steps kt_166.2 2 rfl ?_
    refine px_PW.callV kt_166.2 rfl rfl rfl rfl (mm_error 1 (by decide)) (by decide) (fun v h1 q => ?_)
    obtain ⟨rfl, rfl⟩ := q
    refine px_PW.ret kt_166.2 rfl rfl ?_
    have E : s_mhang Z F thing from_ = ((-1000000000 - 1), Z, F) := if_neg c0
    rw [E]
    exact ⟨rfl, _, _, px_sm.err, rfl⟩
  · have c0 : 0 ≤ thing ∧ thing ≤ ((F 0) 10) - 1 := px_b1n (of_decide_eq_false c0)
    refine px_PW.steps kt_166.2 3 rfl ?_
    refine px_PW.callS kt_166.2 rfl rfl rfl (cm_117 _ _ _ _) (by decide) (fun v h1 q => ?_)
    obtain ⟨rfl, rfl⟩ := q
    refine px_PW.steps kt_166.2 1 rfl ?_
    refine px_PW.br (fun c1 => ?_) (fun c1 => ?_)
    · have c1 : ¬ (0 ≤ from_ ∧ from_ ≤ 4000) := px_b1z (of_decide_eq_true c1)
      refine px_PW.steps kt_166.2 2 rfl ?_
      refine px_PW.callV kt_166.2 rfl rfl rfl rfl (mm_error 1 (by decide)) (by decide) (fun v h1 q => ?_)
      obtain ⟨rfl, rfl⟩ := q
      refine px_PW.ret kt_166.2 rfl rfl ?_
      have E : s_mhang Z F thing from_ = ((-1000000000 - 1), Z, F) := (if_pos c0).trans (if_neg c1)
      rw [E]
      exact ⟨rfl, _, _, px_sm.err, rfl⟩
    · have c1 : 0 ≤ from_ ∧ from_ ≤ 4000 := px_b1n (of_decide_eq_false c1)
      refine px_PW.steps kt_166.2 9 rfl ?_
      refine px_PW.callV kt_166.2 rfl rfl rfl rfl (mm_change1 (n := 12 + 4 * thing.toNatClampNeg + 2) (px_ix (px_thN hM hM6 c0).1 rfl) (by have := (px_thN hM hM6 c0).2.2; omega) _) (by decide) (fun v h1 q => ?_)
      obtain ⟨rfl, rfl⟩ := q
      refine px_PW.steps kt_166.2 1 rfl ?_
      refine px_PW.ret kt_166.2 rfl rfl ?_
      have E : s_mhang Z F thing from_ = (((F 0) (12 + 4 * thing.toNatClampNeg + 2)), Z, (va_up F 0 (upd (F 0) (12 + 4 * thing.toNatClampNeg + 2) from_))) := (if_pos c0).trans (if_pos c1)
      rw [E]
      exact ⟨rfl, _, _, px_sm.rf, rfl⟩
def s_mseed (Z : Nat → Int32) (F : Nat → Nat → Int32) (v : Int32) : Int32 × (Nat → Int32) × (Nat → Nat → Int32) := (((F 0) (7)), Z, (va_up F 0 (upd (F 0) (7) v)))
theorem kc_mseed {Z : Nat → Int32} {F : Nat → Nat → Int32}  (v : Int32) : px_PM 2 175 [.ref 1000, .int v] ([], px_MH Z F) (fun r h' => r = some (.int (s_mseed Z F v).1) ∧ ∃ Z' F', px_sm (s_mseed Z F v).2.1 (s_mseed Z F v).2.2 Z' F' ∧ h' = ([], px_MH Z' F')) := by
  refine px_PM.start (nL := 2) (code := pc_175) rfl rfl ?_
  refine px_PW.steps kt_175.2 3 rfl ?_
  refine px_PW.callV kt_175.2 rfl rfl rfl rfl (mm_change1 (n := 7) rfl (by decide) _) (by decide) (fun v h1 q => ?_)
  obtain ⟨rfl, rfl⟩ := q
  refine px_PW.ret kt_175.2 rfl rfl ?_
  have E : s_mseed Z F v = (((F 0) (7)), Z, (va_up F 0 (upd (F 0) (7) v))) := rfl
  rw [E]
  exact ⟨rfl, _, _, px_sm.rf, rfl⟩
def s_mcount (Z : Nat → Int32) (F : Nat → Nat → Int32) (what : Int32) : Int32 := (if what = 0 then ((F 0) 10) else (if what = 1 then ((F 0) 6) else (if what = 2 then ((F 0) 8) else (if what = 3 then ((F 0) 9) else (if what = 4 then (Z 6) else (if what = 5 then ((F 0) 7) else (-1000000000 - 1)))))))
theorem px_swd_205_1 {x : Int32} (c0 : ¬ (x = 0)) (c1 : ¬ (x = 1)) (c2 : ¬ (x = 2)) (c3 : ¬ (x = 3)) (c4 : ¬ (x = 4)) (c5 : ¬ (x = 5)) : px_sw 0 [40, 48, 56, 64, 72, 77] 85 x.toInt = 85 := by
  have d0 : ¬ (x.toInt = 0) := fun h => c0 (px_i_of h (by decide +kernel))
  have d1 : ¬ (x.toInt = 1) := fun h => c1 (px_i_of h (by decide +kernel))
  have d2 : ¬ (x.toInt = 2) := fun h => c2 (px_i_of h (by decide +kernel))
  have d3 : ¬ (x.toInt = 3) := fun h => c3 (px_i_of h (by decide +kernel))
  have d4 : ¬ (x.toInt = 4) := fun h => c4 (px_i_of h (by decide +kernel))
  have d5 : ¬ (x.toInt = 5) := fun h => c5 (px_i_of h (by decide +kernel))
  exact px_sw_d (fun y h1 h2 => by
    have h1 : (0 : Int) ≤ y := h1
    have h2 : y < 6 := h2
    rcases (show y = 0 ∨ y = 1 ∨ y = 2 ∨ y = 3 ∨ y = 4 ∨ y = 5 by omega) with rfl | rfl | rfl | rfl | rfl | rfl
    · exact Or.inl (fun h => d0 h)
    · exact Or.inl (fun h => d1 h)
    · exact Or.inl (fun h => d2 h)
    · exact Or.inl (fun h => d3 h)
    · exact Or.inl (fun h => d4 h)
    · exact Or.inl (fun h => d5 h))
theorem kc_mcount {Z : Nat → Int32} {F : Nat → Nat → Int32}  (what : Int32) : px_PM 2 205 [.ref 1000, .int what] ([], px_MH Z F) (fun r h' => r = some (.int (s_mcount Z F what)) ∧ ∃ Z' F', px_sm Z F Z' F' ∧ h' = ([], px_MH Z' F')) := by
  refine px_PM.start (nL := 2) (code := pc_205) rfl rfl ?_
  refine px_PW.steps kt_205.2 2 rfl ?_
  by_cases c0 : what = 0
  · refine px_PW.at (pc' := 40) (by rw [c0]; rfl) ?_
    refine px_PW.steps kt_205.2 3 rfl ?_
    refine px_PW.steps kt_205.2 1 rfl ?_
    refine px_PW.ret kt_205.2 rfl rfl ?_
    have E : s_mcount Z F what = ((F 0) 10) := if_pos c0
    rw [E]
    exact ⟨rfl, _, _, px_sm.rf, rfl⟩
  · skip
    by_cases c1 : what = 1
    · refine px_PW.at (pc' := 48) (by rw [c1]; rfl) ?_
      refine px_PW.steps kt_205.2 3 rfl ?_
      refine px_PW.steps kt_205.2 1 rfl ?_
      refine px_PW.ret kt_205.2 rfl rfl ?_
      have E : s_mcount Z F what = ((F 0) 6) := (if_neg c0).trans (if_pos c1)
      rw [E]
      exact ⟨rfl, _, _, px_sm.rf, rfl⟩
    · skip
      by_cases c2 : what = 2
      · refine px_PW.at (pc' := 56) (by rw [c2]; rfl) ?_
        refine px_PW.steps kt_205.2 3 rfl ?_
        refine px_PW.steps kt_205.2 1 rfl ?_
        refine px_PW.ret kt_205.2 rfl rfl ?_
        have E : s_mcount Z F what = ((F 0) 8) := (if_neg c0).trans ((if_neg c1).trans (if_pos c2))
        rw [E]
        exact ⟨rfl, _, _, px_sm.rf, rfl⟩
      · skip
        by_cases c3 : what = 3
        · refine px_PW.at (pc' := 64) (by rw [c3]; rfl) ?_
          refine px_PW.steps kt_205.2 3 rfl ?_
          refine px_PW.steps kt_205.2 1 rfl ?_
          refine px_PW.ret kt_205.2 rfl rfl ?_
          have E : s_mcount Z F what = ((F 0) 9) := (if_neg c0).trans ((if_neg c1).trans ((if_neg c2).trans (if_pos c3)))
          rw [E]
          exact ⟨rfl, _, _, px_sm.rf, rfl⟩
        · skip
          by_cases c4 : what = 4
          · refine px_PW.at (pc' := 72) (by rw [c4]; rfl) ?_
            refine px_PW.steps kt_205.2 2 rfl ?_
            refine px_PW.ret kt_205.2 rfl rfl ?_
            have E : s_mcount Z F what = (Z 6) := (if_neg c0).trans ((if_neg c1).trans ((if_neg c2).trans ((if_neg c3).trans (if_pos c4))))
            rw [E]
            exact ⟨rfl, _, _, px_sm.rf, rfl⟩
          · skip
            by_cases c5 : what = 5
            · refine px_PW.at (pc' := 77) (by rw [c5]; rfl) ?_
              refine px_PW.steps kt_205.2 3 rfl ?_
              refine px_PW.steps kt_205.2 1 rfl ?_
              refine px_PW.ret kt_205.2 rfl rfl ?_
              have E : s_mcount Z F what = ((F 0) 7) := (if_neg c0).trans ((if_neg c1).trans ((if_neg c2).trans ((if_neg c3).trans ((if_neg c4).trans (if_pos c5)))))
              rw [E]
              exact ⟨rfl, _, _, px_sm.rf, rfl⟩
            · skip
              refine px_PW.at (px_swd_205_1 c0 c1 c2 c3 c4 c5) ?_
              refine px_PW.steps kt_205.2 2 rfl ?_
              refine px_PW.callV kt_205.2 rfl rfl rfl rfl (mm_error 1 (by decide)) (by decide) (fun v h1 q => ?_)
              obtain ⟨rfl, rfl⟩ := q
              refine px_PW.ret kt_205.2 rfl rfl ?_
              have E : s_mcount Z F what = (-1000000000 - 1) := (if_neg c0).trans ((if_neg c1).trans ((if_neg c2).trans ((if_neg c3).trans ((if_neg c4).trans (if_neg c5)))))
              rw [E]
              exact ⟨rfl, _, _, px_sm.err, rfl⟩
theorem px_in16 {i : Int32} (c : 1 ≤ i ∧ i ≤ 6) : i = nI i.toNatClampNeg ∧ i.toNatClampNeg < 7 := by
  have h0 : (0 : Int32) ≤ i := Int32.le_trans (by decide) c.1
  exact px_in5 (n := 6) (by decide) ⟨h0, c.2⟩
theorem px_inTr {i x : Int32} (hx : 0 ≤ x ∧ x.toInt ≤ 30) (c : 0 ≤ i ∧ i ≤ x - 1) : i = nI i.toNatClampNeg ∧ i.toNatClampNeg < 30 := by
  obtain ⟨n, hn, rfl⟩ := nI_of (Int32.not_lt.mpr hx.1)
  obtain ⟨k, hk, rfl⟩ := nI_of (Int32.not_lt.mpr c.1)
  have c2 := c.2
  have h3 := hx.2
  rw [nI_toInt (by omega)] at h3
  rw [nI_clamp (by omega)]
  cases n with
  | zero =>
    have h1 : nI 0 - 1 = (-1 : Int32) := by decide
    rw [h1, Int32.le_iff_toInt_le, nI_toInt (by omega)] at c2
    have h2 : (-1 : Int32).toInt = -1 := by decide
    omega
  | succ n =>
    rw [nI_pred, nI_leI (by omega) (by omega)] at c2
    exact ⟨rfl, by omega⟩
def s_mtold (Z : Nat → Int32) (F : Nat → Nat → Int32) (k : Int32) : Int32 := (if 1 ≤ k ∧ k ≤ 6 then ((F 2) k.toNatClampNeg) else (-1000000000 - 1))
theorem kc_mtold {Z : Nat → Int32} {F : Nat → Nat → Int32}  (k : Int32) : px_PM 2 206 [.ref 1000, .int k] ([], px_MH Z F) (fun r h' => r = some (.int (s_mtold Z F k)) ∧ ∃ Z' F', px_sm Z F Z' F' ∧ h' = ([], px_MH Z' F')) := by
  refine px_PM.start (nL := 2) (code := pc_206) rfl rfl ?_
  refine px_PW.steps kt_206.2 3 rfl ?_
  refine px_PW.callS kt_206.2 rfl rfl rfl (cm_117 _ _ _ _) (by decide) (fun v h1 q => ?_)
  obtain ⟨rfl, rfl⟩ := q
  refine px_PW.steps kt_206.2 1 rfl ?_
  refine px_PW.br (fun c0 => ?_) (fun c0 => ?_)
  · have c0 : ¬ (1 ≤ k ∧ k ≤ 6) := px_b1z (of_decide_eq_true c0)
    refine px_PW.steps kt_206.2 2 rfl ?_
    refine px_PW.callV kt_206.2 rfl rfl rfl rfl (mm_error 1 (by decide)) (by decide) (fun v h1 q => ?_)
    obtain ⟨rfl, rfl⟩ := q
    refine px_PW.ret kt_206.2 rfl rfl ?_
    have E : s_mtold Z F k = (-1000000000 - 1) := if_neg c0
    rw [E]
    exact ⟨rfl, _, _, px_sm.err, rfl⟩
  · have c0 : 1 ≤ k ∧ k ≤ 6 := px_b1n (of_decide_eq_false c0)
    refine px_PW.steps kt_206.2 3 rfl ?_
    refine px_PW.aldN kt_206.2 rfl rfl (n := k.toNatClampNeg) (px_in16 c0).1 (px_in16 c0).2 ?_
    refine px_PW.steps kt_206.2 1 rfl ?_
    refine px_PW.ret kt_206.2 rfl rfl ?_
    have E : s_mtold Z F k = ((F 2) k.toNatClampNeg) := if_pos c0
    rw [E]
    exact ⟨rfl, _, _, px_sm.rf, rfl⟩
def s_mbody (Z : Nat → Int32) (F : Nat → Nat → Int32) (i : Int32) : Int32 := (if 0 ≤ i ∧ i ≤ ((Z 6) - 1) then ((F 10) i.toNatClampNeg) else (-1000000000 - 2))
theorem kc_mbody {Z : Nat → Int32} {F : Nat → Nat → Int32} (hTr : 0 ≤ Z 6 ∧ (Z 6).toInt ≤ 30) (i : Int32) : px_PM 2 193 [.ref 1000, .int i] ([], px_MH Z F) (fun r h' => r = some (.int (s_mbody Z F i)) ∧ ∃ Z' F', px_sm Z F Z' F' ∧ h' = ([], px_MH Z' F')) := by
  refine px_PM.start (nL := 2) (code := pc_193) rfl rfl ?_
  refine px_PW.steps kt_193.2 6 rfl ?_
  refine px_PW.callS kt_193.2 rfl rfl rfl (cm_117 _ _ _ _) (by decide) (fun v h1 q => ?_)
  obtain ⟨rfl, rfl⟩ := q
  refine px_PW.steps kt_193.2 1 rfl ?_
  refine px_PW.br (fun c0 => ?_) (fun c0 => ?_)
  · have c0 : ¬ (0 ≤ i ∧ i ≤ ((Z 6) - 1)) := px_b1z (of_decide_eq_true c0)
    refine px_PW.steps kt_193.2 2 rfl ?_
    refine px_PW.callV kt_193.2 rfl rfl rfl rfl (mm_error 2 (by decide)) (by decide) (fun v h1 q => ?_)
    obtain ⟨rfl, rfl⟩ := q
    refine px_PW.ret kt_193.2 rfl rfl ?_
    have E : s_mbody Z F i = (-1000000000 - 2) := if_neg c0
    rw [E]
    exact ⟨rfl, _, _, px_sm.err, rfl⟩
  · have c0 : 0 ≤ i ∧ i ≤ ((Z 6) - 1) := px_b1n (of_decide_eq_false c0)
    refine px_PW.steps kt_193.2 3 rfl ?_
    refine px_PW.aldN kt_193.2 rfl rfl (n := i.toNatClampNeg) (px_inTr hTr c0).1 (px_inTr hTr c0).2 ?_
    refine px_PW.steps kt_193.2 1 rfl ?_
    refine px_PW.ret kt_193.2 rfl rfl ?_
    have E : s_mbody Z F i = ((F 10) i.toNatClampNeg) := if_pos c0
    rw [E]
    exact ⟨rfl, _, _, px_sm.rf, rfl⟩
end
/-! part 28.cmore -/
section
theorem px_room1 {x y : Int32} {L : Nat} (hL : L ≤ 60) (h0 : 0 ≤ x) (h1 : x.toInt ≤ L) (c : y ≤ nI L - x) (hy : 1 ≤ y) : x < nI L := by
  obtain ⟨n, hn, rfl⟩ := nI_of (Int32.not_lt.mpr h0)
  rw [nI_toInt hn] at h1
  have e : nI L - nI n = nI (L - n) := by
    have h := nI_add (L - n) n
    rw [show L - n + n = L by omega] at h
    rw [← h]
    exact Int32.add_sub_cancel _ _
  rw [e] at c
  rw [nI_ltI (by omega) (by omega)]
  have c2 := Int32.le_trans hy c
  rw [show (1 : Int32) = nI 1 from rfl, nI_leI (by omega) (by omega)] at c2
  omega
theorem nb_addR {Z N : Nat → Int32} {F : Nat → Nat → Int32} {q : Nat} (hq : q < 27) (v : Int32) (h0 : 0 ≤ N q) (hr : N q < Int32.ofNat (px_lim q)) : px_PM 1 8 [.ref (px_O q), .int v] (px_CH Z N F, []) (fun r h' => r = none ∧ h' = (px_CH Z (upd N q (N q + 1)) (va_up F q (upd (F q) (N q).toNatClampNeg v)), [])) := by
  have h := nb_add (Z := Z) (N := N) (F := F) hq v h0
  rw [if_neg (Int32.not_le.mpr hr), if_neg (Int32.not_le.mpr hr)] at h
  exact h
theorem cc_textOf0 {Z N : Nat → Int32} {F : Nat → Nat → Int32} : px_PM 1 0 [.ref 1, .int 0] (px_CH Z N F, []) (fun r h' => r = some (.ref 14) ∧ h' = (px_CH Z N F, [])) := ⟨20, _, _, rfl, rfl, rfl⟩
theorem cc_textOf1 {Z N : Nat → Int32} {F : Nat → Nat → Int32} : px_PM 1 0 [.ref 1, .int 1] (px_CH Z N F, []) (fun r h' => r = some (.ref 16) ∧ h' = (px_CH Z N F, [])) := ⟨20, _, _, rfl, rfl, rfl⟩
theorem cc_sheetAt {Z N : Nat → Int32} {F : Nat → Nat → Int32} (k : Nat) (hk : k < 4) : px_PM 1 90 [.ref 0, .int (nI k)] (px_CH Z N F, []) (fun r h' => r = some (.ref (42 + 3 * k)) ∧ h' = (px_CH Z N F, [])) := by
  match k, hk with
  | 0, _ => exact ⟨20, _, _, rfl, rfl, rfl⟩
  | 1, _ => exact ⟨20, _, _, rfl, rfl, rfl⟩
  | 2, _ => exact ⟨20, _, _, rfl, rfl, rfl⟩
  | 3, _ => exact ⟨20, _, _, rfl, rfl, rfl⟩
theorem ch_sh {Z N : Nat → Int32} {F : Nat → Nat → Int32} {k : Nat} (hk : k < 4) : px_cell (px_CH Z N F, []) (42 + 3 * k) = some (.inr (5, [.ref (px_O (19 + k)), .int (Z (2 + k))])) := by
  match k, hk with
  | 0, _ => rfl
  | 1, _ => rfl
  | 2, _ => rfl
  | 3, _ => rfl
theorem ch_isSh {Z N : Nat → Int32} {F : Nat → Nat → Int32} {k : Nat} (hk : k < 4) : px_isO (px_CH Z N F, []) (42 + 3 * k) 5 = true := by
  unfold px_isO
  rw [ch_sh hk]
  rfl
theorem px_op_sh {d : Nat} {code : Nat → Option px_A} (hT : px_frT code) {Q : Option Value → px_H → Prop} {pc : Nat} {x : Int32} {lv : px_L} {r : List Value} {Z N : Nat → Int32} {F : Nat → Nat → Int32} {k : Nat} (hk : k < 4) (hc : code pc = some (px_putf true 5 1)) (kk : px_PW d code Q (pc + 3) lv r (px_CH (upd Z (2 + k) x) N F, [])) : px_PW d code Q pc lv (.int x :: .ref (42 + 3 * k) :: r) (px_CH Z N F, []) := by
  match k, hk with
  | 0, _ => exact px_PW.putf hT hc rfl rfl kk
  | 1, _ => exact px_PW.putf hT hc rfl rfl kk
  | 2, _ => exact px_PW.putf hT hc rfl rfl kk
  | 3, _ => exact px_PW.putf hT hc rfl rfl kk
theorem Int32.lt_of_eq_of_lt {a b c : Int32} (h : a = b) (k : b < c) : a < c := by rw [h]; exact k
def s_thing (Z N : Nat → Int32) (F : Nat → Nat → Int32) (km : Int32) (from_ : Int32) (width : Int32) : Int32 × (Nat → Int32) × (Nat → Int32) × (Nat → Nat → Int32) := (if km < 0 ∨ 69 < km then ((-1000000000 - 1), Z, N, F) else (if from_ < 0 ∨ 4000 < from_ then ((-1000000000 - 1), Z, N, F) else (if width < 1 then ((-1000000000 - 1), Z, N, F) else (if width ≤ 999 then (if 1 ≤ (6 - (N 1)) then ((((N 1) + 1) - 1), Z, (upd (upd (upd (upd N 1 ((N 1) + 1)) 2 ((N 2) + 1)) 3 ((N 3) + 1)) 4 ((N 4) + 1)), (va_up (va_up (va_up (va_up F 1 (upd (F 1) ((N 1)).toNatClampNeg (km / 10))) 2 (upd (F 2) ((N 2)).toNatClampNeg (km - km / 10 * 10))) 3 (upd (F 3) ((N 3)).toNatClampNeg from_)) 4 (upd (F 4) ((N 4)).toNatClampNeg width))) else ((-1000000000 - 4), Z, N, F)) else ((-1000000000 - 1), Z, N, F)))))
theorem kc_thing {Z N : Nat → Int32} {F : Nat → Nat → Int32} (hw : px_cw N) (hT : N 2 = N 1 ∧ N 3 = N 1 ∧ N 4 = N 1) (km : Int32) (from_ : Int32) (width : Int32) : px_PM 3 52 [.ref 0, .int km, .int from_, .int width] (px_CH Z N F, []) (fun r h' => r = some (.int (s_thing Z N F km from_ width).1) ∧ ∃ Z' N' F', px_sc (s_thing Z N F km from_ width).2.1 (s_thing Z N F km from_ width).2.2.1 (s_thing Z N F km from_ width).2.2.2 Z' N' F' ∧ h' = (px_CH Z' N' F', [])) := by
  refine px_PM.start (nL := 4) (code := pc_52) rfl rfl ?_
  refine px_PW.steps kt_52.2 1 rfl ?_
  refine px_PW.callS kt_52.2 rfl rfl rfl (cc_isKM _ _) (by decide) (fun v h1 q => ?_)
  obtain ⟨rfl, rfl⟩ := q
  refine px_PW.steps kt_52.2 1 rfl ?_
  refine px_PW.br (fun c0 => ?_) (fun c0 => ?_)
  · have c0 : km < 0 ∨ 69 < km := px_b0z (of_decide_eq_true c0)
    refine px_PW.steps kt_52.2 2 rfl ?_
    refine px_PW.callV kt_52.2 rfl rfl rfl rfl (cc_error hw.2.2.1 1 (by decide)) (by decide) (fun v h1 q => ?_)
    obtain ⟨rfl, rfl⟩ := q
    refine px_PW.ret kt_52.2 rfl rfl ?_
    have E : s_thing Z N F km from_ width = ((-1000000000 - 1), Z, N, F) := if_pos c0
    rw [E]
    exact ⟨rfl, _, _, _, px_sc.err, rfl⟩
  · have c0 : ¬ (km < 0 ∨ 69 < km) := px_b0n (of_decide_eq_false c0)
    refine px_PW.steps kt_52.2 1 rfl ?_
    refine px_PW.callS kt_52.2 rfl rfl rfl (cc_isFrom _ _) (by decide) (fun v h1 q => ?_)
    obtain ⟨rfl, rfl⟩ := q
    refine px_PW.steps kt_52.2 1 rfl ?_
    refine px_PW.br (fun c1 => ?_) (fun c1 => ?_)
    · have c1 : from_ < 0 ∨ 4000 < from_ := px_b0z (of_decide_eq_true c1)
      refine px_PW.steps kt_52.2 2 rfl ?_
      refine px_PW.callV kt_52.2 rfl rfl rfl rfl (cc_error hw.2.2.1 1 (by decide)) (by decide) (fun v h1 q => ?_)
      obtain ⟨rfl, rfl⟩ := q
      refine px_PW.ret kt_52.2 rfl rfl ?_
      have E : s_thing Z N F km from_ width = ((-1000000000 - 1), Z, N, F) := (if_neg c0).trans (if_pos c1)
      rw [E]
      exact ⟨rfl, _, _, _, px_sc.err, rfl⟩
    · have c1 : ¬ (from_ < 0 ∨ 4000 < from_) := px_b0n (of_decide_eq_false c1)
      refine px_PW.steps kt_52.2 3 rfl ?_
      refine px_PW.br (fun c2 => ?_) (fun c2 => ?_)
      · have c2 : width < 1 := of_decide_eq_true c2
        refine px_PW.steps kt_52.2 2 rfl ?_
        refine px_PW.callV kt_52.2 rfl rfl rfl rfl (cc_error hw.2.2.1 1 (by decide)) (by decide) (fun v h1 q => ?_)
        obtain ⟨rfl, rfl⟩ := q
        refine px_PW.ret kt_52.2 rfl rfl ?_
        have E : s_thing Z N F km from_ width = ((-1000000000 - 1), Z, N, F) := (if_neg c0).trans ((if_neg c1).trans (if_pos c2))
        rw [E]
        exact ⟨rfl, _, _, _, px_sc.err, rfl⟩
      · have c2 : ¬ (width < 1) := of_decide_eq_false c2
        refine px_PW.steps kt_52.2 3 rfl ?_
        refine px_PW.br (fun c3 => ?_) (fun c3 => ?_)
        · have c3 : width ≤ 999 := of_decide_eq_true c3
          refine px_PW.steps kt_52.2 3 rfl ?_
          refine px_PW.callV kt_52.2 rfl rfl rfl rfl (nb_room (q := 1) (by decide)) (by decide) (fun v h1 q => ?_)
          obtain ⟨rfl, rfl⟩ := q
          refine px_PW.steps kt_52.2 2 rfl ?_
          refine px_PW.br (fun c4 => ?_) (fun c4 => ?_)
          · have c4 : 1 ≤ (6 - (N 1)) := of_decide_eq_true c4
            refine px_PW.steps kt_52.2 6 rfl ?_
            refine px_PW.callV kt_52.2 rfl rfl rfl rfl (nb_addR (N := N) (q := 1) (by decide) _ (hw.nn (q := 1) (by decide)) (px_room1 (L := 6) (by decide) (hw.nn (q := 1) (by decide)) (hw.lim (q := 1) (by decide)) c4 (by decide))) (by decide) (fun v h1 q => ?_)
            obtain ⟨rfl, rfl⟩ := q
            refine px_PW.steps kt_52.2 6 rfl ?_
            refine px_PW.callV kt_52.2 rfl rfl rfl rfl (nb_addR (N := (upd N 1 ((N 1) + 1))) (q := 2) (by decide) _ (hw.nn (q := 2) (by decide)) (Int32.lt_of_eq_of_lt hT.1 (px_room1 (L := 6) (by decide) (hw.nn (q := 1) (by decide)) (hw.lim (q := 1) (by decide)) c4 (by decide)))) (by decide) (fun v h1 q => ?_)
            obtain ⟨rfl, rfl⟩ := q
            refine px_PW.steps kt_52.2 4 rfl ?_
            refine px_PW.callV kt_52.2 rfl rfl rfl rfl (nb_addR (N := (upd (upd N 1 ((N 1) + 1)) 2 ((N 2) + 1))) (q := 3) (by decide) _ (hw.nn (q := 3) (by decide)) (Int32.lt_of_eq_of_lt hT.2.1 (px_room1 (L := 6) (by decide) (hw.nn (q := 1) (by decide)) (hw.lim (q := 1) (by decide)) c4 (by decide)))) (by decide) (fun v h1 q => ?_)
            obtain ⟨rfl, rfl⟩ := q
            refine px_PW.steps kt_52.2 4 rfl ?_
            refine px_PW.callV kt_52.2 rfl rfl rfl rfl (nb_addR (N := (upd (upd (upd N 1 ((N 1) + 1)) 2 ((N 2) + 1)) 3 ((N 3) + 1))) (q := 4) (by decide) _ (hw.nn (q := 4) (by decide)) (Int32.lt_of_eq_of_lt hT.2.2 (px_room1 (L := 6) (by decide) (hw.nn (q := 1) (by decide)) (hw.lim (q := 1) (by decide)) c4 (by decide)))) (by decide) (fun v h1 q => ?_)
            obtain ⟨rfl, rfl⟩ := q
            refine px_PW.steps kt_52.2 3 rfl ?_
            refine px_PW.callV kt_52.2 rfl rfl rfl rfl (nb_size (q := 1) (by decide)) (by decide) (fun v h1 q => ?_)
            obtain ⟨rfl, rfl⟩ := q
            refine px_PW.steps kt_52.2 2 rfl ?_
            refine px_PW.ret kt_52.2 rfl rfl ?_
            have E : s_thing Z N F km from_ width = ((((N 1) + 1) - 1), Z, (upd (upd (upd (upd N 1 ((N 1) + 1)) 2 ((N 2) + 1)) 3 ((N 3) + 1)) 4 ((N 4) + 1)), (va_up (va_up (va_up (va_up F 1 (upd (F 1) ((N 1)).toNatClampNeg (km / 10))) 2 (upd (F 2) ((N 2)).toNatClampNeg (km - km / 10 * 10))) 3 (upd (F 3) ((N 3)).toNatClampNeg from_)) 4 (upd (F 4) ((N 4)).toNatClampNeg width))) := (if_neg c0).trans ((if_neg c1).trans ((if_neg c2).trans ((if_pos c3).trans (if_pos c4))))
            rw [E]
            exact ⟨rfl, _, _, _, px_sc.rf, rfl⟩
          · have c4 : ¬ (1 ≤ (6 - (N 1))) := of_decide_eq_false c4
            refine px_PW.steps kt_52.2 2 rfl ?_
            refine px_PW.callV kt_52.2 rfl rfl rfl rfl (cc_error hw.2.2.1 4 (by decide)) (by decide) (fun v h1 q => ?_)
            obtain ⟨rfl, rfl⟩ := q
            refine px_PW.ret kt_52.2 rfl rfl ?_
            have E : s_thing Z N F km from_ width = ((-1000000000 - 4), Z, N, F) := (if_neg c0).trans ((if_neg c1).trans ((if_neg c2).trans ((if_pos c3).trans (if_neg c4))))
            rw [E]
            exact ⟨rfl, _, _, _, px_sc.err, rfl⟩
        · have c3 : ¬ (width ≤ 999) := of_decide_eq_false c3
          refine px_PW.steps kt_52.2 2 rfl ?_
          refine px_PW.callV kt_52.2 rfl rfl rfl rfl (cc_error hw.2.2.1 1 (by decide)) (by decide) (fun v h1 q => ?_)
          obtain ⟨rfl, rfl⟩ := q
          refine px_PW.ret kt_52.2 rfl rfl ?_
          have E : s_thing Z N F km from_ width = ((-1000000000 - 1), Z, N, F) := (if_neg c0).trans ((if_neg c1).trans ((if_neg c2).trans (if_neg c3)))
          rw [E]
          exact ⟨rfl, _, _, _, px_sc.err, rfl⟩
def s_tell (Z N : Nat → Int32) (F : Nat → Nat → Int32) (v : Int32) : Int32 × (Nat → Int32) × (Nat → Int32) × (Nat → Nat → Int32) := (if 1 ≤ (24 - (N 8)) then (((N 8) + 1), Z, (upd N 8 ((N 8) + 1)), (va_up F 8 (upd (F 8) ((N 8)).toNatClampNeg v))) else ((-1000000000 - 4), Z, N, F))
theorem kc_tell {Z N : Nat → Int32} {F : Nat → Nat → Int32} (hw : px_cw N) (v : Int32) : px_PM 3 82 [.ref 0, .int v] (px_CH Z N F, []) (fun r h' => r = some (.int (s_tell Z N F v).1) ∧ ∃ Z' N' F', px_sc (s_tell Z N F v).2.1 (s_tell Z N F v).2.2.1 (s_tell Z N F v).2.2.2 Z' N' F' ∧ h' = (px_CH Z' N' F', [])) := by
  refine px_PM.start (nL := 2) (code := pc_82) rfl rfl ?_
  refine px_PW.steps kt_82.2 3 rfl ?_
  refine px_PW.callV kt_82.2 rfl rfl rfl rfl (nb_room (q := 8) (by decide)) (by decide) (fun v h1 q => ?_)
  obtain ⟨rfl, rfl⟩ := q
  refine px_PW.steps kt_82.2 2 rfl ?_
  refine px_PW.br (fun c0 => ?_) (fun c0 => ?_)
  · have c0 : 1 ≤ (24 - (N 8)) := of_decide_eq_true c0
    refine px_PW.steps kt_82.2 4 rfl ?_
    refine px_PW.callV kt_82.2 rfl rfl rfl rfl (nb_addR (N := N) (q := 8) (by decide) _ (hw.nn (q := 8) (by decide)) (px_room1 (L := 24) (by decide) (hw.nn (q := 8) (by decide)) (hw.lim (q := 8) (by decide)) c0 (by decide))) (by decide) (fun v h1 q => ?_)
    obtain ⟨rfl, rfl⟩ := q
    refine px_PW.steps kt_82.2 3 rfl ?_
    refine px_PW.callV kt_82.2 rfl rfl rfl rfl (nb_size (q := 8) (by decide)) (by decide) (fun v h1 q => ?_)
    obtain ⟨rfl, rfl⟩ := q
    refine px_PW.ret kt_82.2 rfl rfl ?_
    have E : s_tell Z N F v = (((N 8) + 1), Z, (upd N 8 ((N 8) + 1)), (va_up F 8 (upd (F 8) ((N 8)).toNatClampNeg v))) := if_pos c0
    rw [E]
    exact ⟨rfl, _, _, _, px_sc.rf, rfl⟩
  · have c0 : ¬ (1 ≤ (24 - (N 8))) := of_decide_eq_false c0
    refine px_PW.steps kt_82.2 2 rfl ?_
    refine px_PW.callV kt_82.2 rfl rfl rfl rfl (cc_error hw.2.2.1 4 (by decide)) (by decide) (fun v h1 q => ?_)
    obtain ⟨rfl, rfl⟩ := q
    refine px_PW.ret kt_82.2 rfl rfl ?_
    have E : s_tell Z N F v = ((-1000000000 - 4), Z, N, F) := if_neg c0
    rw [E]
    exact ⟨rfl, _, _, _, px_sc.err, rfl⟩
def s_untell0 (Z N : Nat → Int32) (F : Nat → Nat → Int32)  : Int32 × (Nat → Int32) × (Nat → Int32) × (Nat → Nat → Int32) := (if (N 6) ≤ 0 then (0, Z, (upd N 6 0), F) else (1, Z, (upd N 6 0), F))
theorem kc_untell0 {Z N : Nat → Int32} {F : Nat → Nat → Int32} (hw : px_cw N)  : px_PM 2 59 [.ref 0, .int 0] (px_CH Z N F, []) (fun r h' => r = some (.int (s_untell0 Z N F).1) ∧ ∃ Z' N' F', px_sc (s_untell0 Z N F).2.1 (s_untell0 Z N F).2.2.1 (s_untell0 Z N F).2.2.2 Z' N' F' ∧ h' = (px_CH Z' N' F', [])) := by
  refine px_PM.start (nL := 3) (code := pc_59) rfl rfl ?_
  refine px_PW.steps kt_59.2 1 rfl ?_
  refine px_PW.callS kt_59.2 rfl rfl rfl (cc_isUse _ _) (by decide) (fun v h1 q => ?_)
  obtain ⟨rfl, rfl⟩ := q
  refine px_PW.steps kt_59.2 1 rfl ?_
  refine px_PW.br (fun c0 => ?_) (fun c0 => ?_)
  · have c0 : 0 = 0 ∨ 0 = 1 := px_b1n (of_decide_eq_false (px_nt c0))
    refine px_PW.steps kt_59.2 3 rfl ?_
    refine px_PW.callV kt_59.2 rfl rfl rfl rfl (cc_textOf0) (by decide) (fun v h1 q => ?_)
    obtain ⟨rfl, rfl⟩ := q
    refine px_PW.callV kt_59.2 rfl rfl rfl rfl (nb_size (q := 6) (by decide)) (by decide) (fun v h1 q => ?_)
    obtain ⟨rfl, rfl⟩ := q
    refine px_PW.steps kt_59.2 1 rfl ?_
    refine px_PW.br (fun c1 => ?_) (fun c1 => ?_)
    · have c1 : (N 6) ≤ 0 := of_decide_eq_true c1
      refine px_PW.steps kt_59.2 5 rfl ?_
      refine px_PW.callV kt_59.2 rfl rfl rfl rfl (cc_textOf0) (by decide) (fun v h1 q => ?_)
      obtain ⟨rfl, rfl⟩ := q
      refine px_PW.callV kt_59.2 rfl rfl rfl rfl (nb_clear (q := 6) (by decide)) (by decide) (fun v h1 q => ?_)
      obtain ⟨rfl, rfl⟩ := q
      refine px_PW.steps kt_59.2 1 rfl ?_
      refine px_PW.ret kt_59.2 rfl rfl ?_
      have E : s_untell0 Z N F = (0, Z, (upd N 6 0), F) := if_pos c1
      rw [E]
      exact ⟨rfl, _, _, _, px_sc.rf, rfl⟩
    · have c1 : ¬ ((N 6) ≤ 0) := of_decide_eq_false c1
      refine px_PW.steps kt_59.2 6 rfl ?_
      refine px_PW.callV kt_59.2 rfl rfl rfl rfl (cc_textOf0) (by decide) (fun v h1 q => ?_)
      obtain ⟨rfl, rfl⟩ := q
      refine px_PW.callV kt_59.2 rfl rfl rfl rfl (nb_clear (q := 6) (by decide)) (by decide) (fun v h1 q => ?_)
      obtain ⟨rfl, rfl⟩ := q
      refine px_PW.steps kt_59.2 1 rfl ?_
      refine px_PW.ret kt_59.2 rfl rfl ?_
      have E : s_untell0 Z N F = (1, Z, (upd N 6 0), F) := if_neg c1
      rw [E]
      exact ⟨rfl, _, _, _, px_sc.rf, rfl⟩
  · have c0 : ¬ (0 = 0 ∨ 0 = 1) := px_b1z (of_decide_eq_true (px_nf c0))
    exact absurd (Or.inl rfl) c0
def s_untell1 (Z N : Nat → Int32) (F : Nat → Nat → Int32)  : Int32 × (Nat → Int32) × (Nat → Int32) × (Nat → Nat → Int32) := (if (N 7) ≤ 0 then (0, Z, (upd N 7 0), F) else (1, Z, (upd N 7 0), F))
theorem kc_untell1 {Z N : Nat → Int32} {F : Nat → Nat → Int32} (hw : px_cw N)  : px_PM 2 59 [.ref 0, .int 1] (px_CH Z N F, []) (fun r h' => r = some (.int (s_untell1 Z N F).1) ∧ ∃ Z' N' F', px_sc (s_untell1 Z N F).2.1 (s_untell1 Z N F).2.2.1 (s_untell1 Z N F).2.2.2 Z' N' F' ∧ h' = (px_CH Z' N' F', [])) := by
  refine px_PM.start (nL := 3) (code := pc_59) rfl rfl ?_
  refine px_PW.steps kt_59.2 1 rfl ?_
  refine px_PW.callS kt_59.2 rfl rfl rfl (cc_isUse _ _) (by decide) (fun v h1 q => ?_)
  obtain ⟨rfl, rfl⟩ := q
  refine px_PW.steps kt_59.2 1 rfl ?_
  refine px_PW.br (fun c0 => ?_) (fun c0 => ?_)
  · have c0 : 1 = 0 ∨ 1 = 1 := px_b1n (of_decide_eq_false (px_nt c0))
    refine px_PW.steps kt_59.2 3 rfl ?_
    refine px_PW.callV kt_59.2 rfl rfl rfl rfl (cc_textOf1) (by decide) (fun v h1 q => ?_)
    obtain ⟨rfl, rfl⟩ := q
    refine px_PW.callV kt_59.2 rfl rfl rfl rfl (nb_size (q := 7) (by decide)) (by decide) (fun v h1 q => ?_)
    obtain ⟨rfl, rfl⟩ := q
    refine px_PW.steps kt_59.2 1 rfl ?_
    refine px_PW.br (fun c1 => ?_) (fun c1 => ?_)
    · have c1 : (N 7) ≤ 0 := of_decide_eq_true c1
      refine px_PW.steps kt_59.2 5 rfl ?_
      refine px_PW.callV kt_59.2 rfl rfl rfl rfl (cc_textOf1) (by decide) (fun v h1 q => ?_)
      obtain ⟨rfl, rfl⟩ := q
      refine px_PW.callV kt_59.2 rfl rfl rfl rfl (nb_clear (q := 7) (by decide)) (by decide) (fun v h1 q => ?_)
      obtain ⟨rfl, rfl⟩ := q
      refine px_PW.steps kt_59.2 1 rfl ?_
      refine px_PW.ret kt_59.2 rfl rfl ?_
      have E : s_untell1 Z N F = (0, Z, (upd N 7 0), F) := if_pos c1
      rw [E]
      exact ⟨rfl, _, _, _, px_sc.rf, rfl⟩
    · have c1 : ¬ ((N 7) ≤ 0) := of_decide_eq_false c1
      refine px_PW.steps kt_59.2 6 rfl ?_
      refine px_PW.callV kt_59.2 rfl rfl rfl rfl (cc_textOf1) (by decide) (fun v h1 q => ?_)
      obtain ⟨rfl, rfl⟩ := q
      refine px_PW.callV kt_59.2 rfl rfl rfl rfl (nb_clear (q := 7) (by decide)) (by decide) (fun v h1 q => ?_)
      obtain ⟨rfl, rfl⟩ := q
      refine px_PW.steps kt_59.2 1 rfl ?_
      refine px_PW.ret kt_59.2 rfl rfl ?_
      have E : s_untell1 Z N F = (1, Z, (upd N 7 0), F) := if_neg c1
      rw [E]
      exact ⟨rfl, _, _, _, px_sc.rf, rfl⟩
  · have c0 : ¬ (1 = 0 ∨ 1 = 1) := px_b1z (of_decide_eq_true (px_nf c0))
    exact absurd (Or.inr rfl) c0

def s_untellB (Z N : Nat → Int32) (F : Nat → Nat → Int32) (use : Int32) : Int32 × (Nat → Int32) × (Nat → Int32) × (Nat → Nat → Int32) := ((-1000000000 - 1), Z, N, F)
theorem kc_untellB {Z N : Nat → Int32} {F : Nat → Nat → Int32} (hw : px_cw N) (use : Int32) (hu : ¬ (use = 0 ∨ use = 1)) : px_PM 3 59 [.ref 0, .int use] (px_CH Z N F, []) (fun r h' => r = some (.int (s_untellB Z N F use).1) ∧ ∃ Z' N' F', px_sc (s_untellB Z N F use).2.1 (s_untellB Z N F use).2.2.1 (s_untellB Z N F use).2.2.2 Z' N' F' ∧ h' = (px_CH Z' N' F', [])) := by
  refine px_PM.start (nL := 3) (code := pc_59) rfl rfl ?_
  refine px_PW.steps kt_59.2 1 rfl ?_
  refine px_PW.callS kt_59.2 rfl rfl rfl (cc_isUse _ _) (by decide) (fun v h1 q => ?_)
  obtain ⟨rfl, rfl⟩ := q
  refine px_PW.steps kt_59.2 1 rfl ?_
  refine px_PW.br (fun c0 => ?_) (fun c0 => ?_)
  · have c0 : use = 0 ∨ use = 1 := px_b1n (of_decide_eq_false (px_nt c0))
    exact absurd c0 hu
  · have c0 : ¬ (use = 0 ∨ use = 1) := px_b1z (of_decide_eq_true (px_nf c0))
    refine px_PW.steps kt_59.2 2 rfl ?_
    refine px_PW.callV kt_59.2 rfl rfl rfl rfl (cc_error hw.2.2.1 1 (by decide)) (by decide) (fun v h1 q => ?_)
    obtain ⟨rfl, rfl⟩ := q
    refine px_PW.ret kt_59.2 rfl rfl ?_
    have E : s_untellB Z N F use = ((-1000000000 - 1), Z, N, F) := rfl
    rw [E]
    exact ⟨rfl, _, _, _, px_sc.err, rfl⟩
theorem cc_isMissing {Z N : Nat → Int32} {F : Nat → Nat → Int32} {k : Nat} (hk : k < 4) : px_PM 1 41 [.ref (42 + 3 * k)] (px_CH Z N F, []) (fun r h' => r = some (.int (if Z (2 + k) = 0 then 1 else 0)) ∧ h' = (px_CH Z N F, [])) := by
  refine px_PM.start (nL := 1) (code := pc_41) rfl rfl ?_
  refine px_PW.steps kt_41.2 1 rfl ?_
  refine px_PW.getf kt_41.2 rfl (ch_sh hk) rfl ?_
  refine px_PW.steps kt_41.2 1 rfl ?_
  refine px_PW.br (fun c0 => ?_) (fun c0 => ?_)
  · have c0 : ¬ ((Z (2 + k)) = 0) := of_decide_eq_false (px_nt c0)
    refine px_PW.steps kt_41.2 1 rfl ?_
    refine px_PW.ret kt_41.2 rfl rfl ?_
    exact ⟨by simp [*], rfl⟩
  · have c0 : (Z (2 + k)) = 0 := of_decide_eq_true (px_nf c0)
    refine px_PW.steps kt_41.2 2 rfl ?_
    refine px_PW.ret kt_41.2 rfl rfl ?_
    exact ⟨by simp [*], rfl⟩
def s_low (b v : Int32) : Int32 := if b = 8 then v.toInt8.toInt32 else if b = 16 then v.toInt16.toInt32 else v
theorem cc_low {Z N : Nat → Int32} {F : Nat → Nat → Int32} {k : Nat} (hk : k < 4) (v : Int32) : px_PM 1 42 [.ref (42 + 3 * k), .int v] (px_CH Z N F, []) (fun r h' => r = some (.int (s_low (Z (2 + k)) v)) ∧ h' = (px_CH Z N F, [])) := by
  refine px_PM.start (nL := 2) (code := pc_42) rfl rfl ?_
  refine px_PW.steps kt_42.2 1 rfl ?_
  refine px_PW.getf kt_42.2 rfl (ch_sh hk) rfl ?_
  refine px_PW.steps kt_42.2 2 rfl ?_
  refine px_PW.br (fun c0 => ?_) (fun c0 => ?_)
  · have c0 : ¬ ((Z (2 + k)) = 8) := of_decide_eq_false (px_nt c0)
    refine px_PW.steps kt_42.2 1 rfl ?_
    refine px_PW.getf kt_42.2 rfl (ch_sh hk) rfl ?_
    refine px_PW.steps kt_42.2 2 rfl ?_
    refine px_PW.br (fun c1 => ?_) (fun c1 => ?_)
    · have c1 : ¬ ((Z (2 + k)) = 16) := of_decide_eq_false (px_nt c1)
      refine px_PW.steps kt_42.2 1 rfl ?_
      refine px_PW.ret kt_42.2 rfl rfl ?_
      exact ⟨by simp [s_low, *], rfl⟩
    · have c1 : (Z (2 + k)) = 16 := of_decide_eq_true (px_nf c1)
      refine px_PW.steps kt_42.2 3 rfl ?_
      refine px_PW.ret kt_42.2 rfl rfl ?_
      exact ⟨by simp [s_low, *], rfl⟩
  · have c0 : (Z (2 + k)) = 8 := of_decide_eq_true (px_nf c0)
    refine px_PW.steps kt_42.2 2 rfl ?_
    refine px_PW.ret kt_42.2 rfl rfl ?_
    exact ⟨by simp [s_low, *], rfl⟩
theorem cc_sheetAtB {Z N : Nat → Int32} {F : Nat → Nat → Int32} (i : Int32) (hi : i < 0 ∨ 4 ≤ i) : px_PM 1 90 [.ref 0, .int i] (px_CH Z N F, []) (fun r h' => r = some .null ∧ h' = (px_CH Z N F, [])) := by
  refine px_PM.start (nL := 2) (code := pc_90) rfl rfl ?_
  by_cases c0 : i < 0
  · refine px_PW.steps kt_90.2 2 rfl ?_
    refine px_PW.br (fun c => ?_) (fun c => ?_)
    · refine px_PW.steps kt_90.2 1 rfl ?_
      exact px_PW.ret kt_90.2 rfl rfl ⟨rfl, rfl⟩
    · exact absurd c0 (of_decide_eq_false c)
  · refine px_PW.steps kt_90.2 2 rfl ?_
    refine px_PW.br (fun c => ?_) (fun c => ?_)
    · exact absurd (of_decide_eq_true c) c0
    · refine px_PW.steps kt_90.2 5 rfl ?_
      refine px_PW.br (fun c2 => ?_) (fun c2 => ?_)
      · refine px_PW.steps kt_90.2 1 rfl ?_
        exact px_PW.ret kt_90.2 rfl rfl ⟨rfl, rfl⟩
      · exact absurd (hi.resolve_left c0) (of_decide_eq_false c2)
theorem nb_setS {Z N : Nat → Int32} {F : Nat → Nat → Int32} {q : Nat} (hq : q < 27) {i : Int32} (hl : (N q).toInt ≤ px_lim q) (hi : ¬ (i < 0 ∨ N q ≤ i)) (v : Int32) : px_PM 1 7 [.ref (px_O q), .int i, .int v] (px_CH Z N F, []) (fun r h' => r = none ∧ h' = (px_CH Z N (va_up F q (upd (F q) i.toNatClampNeg v)), [])) := by
  have h := nb_set (Z := Z) (N := N) (F := F) hq i v hl
  rw [if_neg hi] at h
  exact h
theorem nb_takeS {Z N : Nat → Int32} {F : Nat → Nat → Int32} {q p : Nat} (hq : q < 27) (hp : p < 27) {i j n : Int32} (hl : (N p).toInt ≤ px_lim p) (hl2 : (N q).toInt ≤ px_lim q) (c1 : ¬ (i < 0 ∨ n < 0 ∨ N p < n ∨ N p - n < i)) (c2 : ¬ (j < 0 ∨ n < 0 ∨ N q < n ∨ N q - n < j)) : px_PM 2 12 [.ref (px_O q), .ref (px_O p), .int i, .int j, .int n] (px_CH Z N F, []) (fun r h' => r = none ∧ h' = (px_CH Z N (va_up F q (va_cpy (F p) (F q) i.toNatClampNeg j.toNatClampNeg n.toNatClampNeg)), [])) := by
  have h := nb_take (Z := Z) (N := N) (F := F) hq hp i j n hl hl2
  rw [if_neg (fun q => q.elim c1 c2)] at h
  exact h
def s_sheet (Z N : Nat → Int32) (F : Nat → Nat → Int32) (k : Nat) (bits : Int32) (n : Int32) : Int32 × (Nat → Int32) × (Nat → Int32) × (Nat → Nat → Int32) := (if bits = 0 then (if bits = 0 then (if bits = 0 then (1, (upd Z (2 + k) bits), (upd N (19 + k) (Int32.ofNat (px_fz n (px_lim (19 + k))))), (va_up F (19 + k) (px_zf (F (19 + k)) 0 (px_fz n (px_lim (19 + k)))))) else (if n ≤ 24 then (1, (upd Z (2 + k) bits), (upd N (19 + k) (Int32.ofNat (px_fz n (px_lim (19 + k))))), (va_up F (19 + k) (px_zf (F (19 + k)) 0 (px_fz n (px_lim (19 + k)))))) else ((-1000000000 - 1), Z, N, F))) else (if 0 ≤ n then (if bits = 0 then (1, (upd Z (2 + k) bits), (upd N (19 + k) (Int32.ofNat (px_fz n (px_lim (19 + k))))), (va_up F (19 + k) (px_zf (F (19 + k)) 0 (px_fz n (px_lim (19 + k)))))) else (if n ≤ 24 then (1, (upd Z (2 + k) bits), (upd N (19 + k) (Int32.ofNat (px_fz n (px_lim (19 + k))))), (va_up F (19 + k) (px_zf (F (19 + k)) 0 (px_fz n (px_lim (19 + k)))))) else ((-1000000000 - 1), Z, N, F))) else ((-1000000000 - 3), Z, N, F))) else (if bits = 8 then (if bits = 0 then (if bits = 0 then (1, (upd Z (2 + k) bits), (upd N (19 + k) (Int32.ofNat (px_fz n (px_lim (19 + k))))), (va_up F (19 + k) (px_zf (F (19 + k)) 0 (px_fz n (px_lim (19 + k)))))) else (if n ≤ 24 then (1, (upd Z (2 + k) bits), (upd N (19 + k) (Int32.ofNat (px_fz n (px_lim (19 + k))))), (va_up F (19 + k) (px_zf (F (19 + k)) 0 (px_fz n (px_lim (19 + k)))))) else ((-1000000000 - 1), Z, N, F))) else (if 0 ≤ n then (if bits = 0 then (1, (upd Z (2 + k) bits), (upd N (19 + k) (Int32.ofNat (px_fz n (px_lim (19 + k))))), (va_up F (19 + k) (px_zf (F (19 + k)) 0 (px_fz n (px_lim (19 + k)))))) else (if n ≤ 24 then (1, (upd Z (2 + k) bits), (upd N (19 + k) (Int32.ofNat (px_fz n (px_lim (19 + k))))), (va_up F (19 + k) (px_zf (F (19 + k)) 0 (px_fz n (px_lim (19 + k)))))) else ((-1000000000 - 1), Z, N, F))) else ((-1000000000 - 3), Z, N, F))) else (if bits = 16 then (if bits = 0 then (if bits = 0 then (1, (upd Z (2 + k) bits), (upd N (19 + k) (Int32.ofNat (px_fz n (px_lim (19 + k))))), (va_up F (19 + k) (px_zf (F (19 + k)) 0 (px_fz n (px_lim (19 + k)))))) else (if n ≤ 24 then (1, (upd Z (2 + k) bits), (upd N (19 + k) (Int32.ofNat (px_fz n (px_lim (19 + k))))), (va_up F (19 + k) (px_zf (F (19 + k)) 0 (px_fz n (px_lim (19 + k)))))) else ((-1000000000 - 1), Z, N, F))) else (if 0 ≤ n then (if bits = 0 then (1, (upd Z (2 + k) bits), (upd N (19 + k) (Int32.ofNat (px_fz n (px_lim (19 + k))))), (va_up F (19 + k) (px_zf (F (19 + k)) 0 (px_fz n (px_lim (19 + k)))))) else (if n ≤ 24 then (1, (upd Z (2 + k) bits), (upd N (19 + k) (Int32.ofNat (px_fz n (px_lim (19 + k))))), (va_up F (19 + k) (px_zf (F (19 + k)) 0 (px_fz n (px_lim (19 + k)))))) else ((-1000000000 - 1), Z, N, F))) else ((-1000000000 - 3), Z, N, F))) else (if bits = 32 then (if bits = 0 then (if bits = 0 then (1, (upd Z (2 + k) bits), (upd N (19 + k) (Int32.ofNat (px_fz n (px_lim (19 + k))))), (va_up F (19 + k) (px_zf (F (19 + k)) 0 (px_fz n (px_lim (19 + k)))))) else (if n ≤ 24 then (1, (upd Z (2 + k) bits), (upd N (19 + k) (Int32.ofNat (px_fz n (px_lim (19 + k))))), (va_up F (19 + k) (px_zf (F (19 + k)) 0 (px_fz n (px_lim (19 + k)))))) else ((-1000000000 - 1), Z, N, F))) else (if 0 ≤ n then (if bits = 0 then (1, (upd Z (2 + k) bits), (upd N (19 + k) (Int32.ofNat (px_fz n (px_lim (19 + k))))), (va_up F (19 + k) (px_zf (F (19 + k)) 0 (px_fz n (px_lim (19 + k)))))) else (if n ≤ 24 then (1, (upd Z (2 + k) bits), (upd N (19 + k) (Int32.ofNat (px_fz n (px_lim (19 + k))))), (va_up F (19 + k) (px_zf (F (19 + k)) 0 (px_fz n (px_lim (19 + k)))))) else ((-1000000000 - 1), Z, N, F))) else ((-1000000000 - 3), Z, N, F))) else ((-1000000000 - 1), Z, N, F)))))
theorem kc_sheet {Z N : Nat → Int32} {F : Nat → Nat → Int32} (hw : px_cw N) (k : Nat) (hk : k < 4) (bits : Int32) (n : Int32) : px_PM 3 75 [.ref 0, .int (nI k), .int bits, .int n] (px_CH Z N F, []) (fun r h' => r = some (.int (s_sheet Z N F k bits n).1) ∧ ∃ Z' N' F', px_sc (s_sheet Z N F k bits n).2.1 (s_sheet Z N F k bits n).2.2.1 (s_sheet Z N F k bits n).2.2.2 Z' N' F' ∧ h' = (px_CH Z' N' F', [])) := by
  refine px_PM.start (nL := 5) (code := pc_75) rfl rfl ?_
  refine px_PW.steps kt_75.2 2 rfl ?_
  refine px_PW.callV kt_75.2 rfl rfl rfl rfl (cc_sheetAt k hk) (by decide) (fun v h1 q => ?_)
  obtain ⟨rfl, rfl⟩ := q
  refine px_PW.steps kt_75.2 5 rfl ?_
  refine px_PW.br (fun c0 => ?_) (fun c0 => ?_)
  · have c0 : bits = 0 := of_decide_eq_true c0
    refine px_PW.steps kt_75.2 2 rfl ?_
    refine px_PW.br (fun c1 => ?_) (fun c1 => ?_)
    · have c1 : bits = 0 := of_decide_eq_true c1
      refine px_PW.steps kt_75.2 2 rfl ?_
      refine px_PW.br (fun c2 => ?_) (fun c2 => ?_)
      · have c2 : bits = 0 := of_decide_eq_true c2
        refine px_PW.steps kt_75.2 2 rfl ?_
        refine px_op_sh kt_75.2 hk rfl ?_
        refine px_PW.steps kt_75.2 1 rfl ?_
        refine px_PW.getf kt_75.2 rfl (ch_sh hk) rfl ?_
        refine px_PW.steps kt_75.2 1 rfl ?_
        refine px_PW.callV kt_75.2 rfl rfl (ch_isO (by omega)) rfl (nb_fill (q := (19 + k)) (by omega) _) (by decide) (fun v h1 q => ?_)
        obtain ⟨rfl, rfl⟩ := q
        refine px_PW.steps kt_75.2 1 rfl ?_
        refine px_PW.ret kt_75.2 rfl rfl ?_
        have E : s_sheet Z N F k bits n = (1, (upd Z (2 + k) bits), (upd N (19 + k) (Int32.ofNat (px_fz n (px_lim (19 + k))))), (va_up F (19 + k) (px_zf (F (19 + k)) 0 (px_fz n (px_lim (19 + k)))))) := (if_pos c0).trans ((if_pos c1).trans (if_pos c2))
        rw [E]
        exact ⟨rfl, _, _, _, px_sc.rf, rfl⟩
      · have c2 : ¬ (bits = 0) := of_decide_eq_false c2
        refine px_PW.steps kt_75.2 3 rfl ?_
        refine px_PW.br (fun c3 => ?_) (fun c3 => ?_)
        · have c3 : n ≤ 24 := of_decide_eq_true c3
          refine px_PW.steps kt_75.2 2 rfl ?_
          refine px_op_sh kt_75.2 hk rfl ?_
          refine px_PW.steps kt_75.2 1 rfl ?_
          refine px_PW.getf kt_75.2 rfl (ch_sh hk) rfl ?_
          refine px_PW.steps kt_75.2 1 rfl ?_
          refine px_PW.callV kt_75.2 rfl rfl (ch_isO (by omega)) rfl (nb_fill (q := (19 + k)) (by omega) _) (by decide) (fun v h1 q => ?_)
          obtain ⟨rfl, rfl⟩ := q
          refine px_PW.steps kt_75.2 1 rfl ?_
          refine px_PW.ret kt_75.2 rfl rfl ?_
          have E : s_sheet Z N F k bits n = (1, (upd Z (2 + k) bits), (upd N (19 + k) (Int32.ofNat (px_fz n (px_lim (19 + k))))), (va_up F (19 + k) (px_zf (F (19 + k)) 0 (px_fz n (px_lim (19 + k)))))) := (if_pos c0).trans ((if_pos c1).trans ((if_neg c2).trans (if_pos c3)))
          rw [E]
          exact ⟨rfl, _, _, _, px_sc.rf, rfl⟩
        · have c3 : ¬ (n ≤ 24) := of_decide_eq_false c3
          refine px_PW.steps kt_75.2 2 rfl ?_
          refine px_PW.callV kt_75.2 rfl rfl rfl rfl (cc_error hw.2.2.1 1 (by decide)) (by decide) (fun v h1 q => ?_)
          obtain ⟨rfl, rfl⟩ := q
          refine px_PW.ret kt_75.2 rfl rfl ?_
          have E : s_sheet Z N F k bits n = ((-1000000000 - 1), Z, N, F) := (if_pos c0).trans ((if_pos c1).trans ((if_neg c2).trans (if_neg c3)))
          rw [E]
          exact ⟨rfl, _, _, _, px_sc.err, rfl⟩
    · have c1 : ¬ (bits = 0) := of_decide_eq_false c1
      refine px_PW.steps kt_75.2 2 rfl ?_
      refine px_PW.br (fun c4 => ?_) (fun c4 => ?_)
      · have c4 : 0 ≤ n := of_decide_eq_true c4
        refine px_PW.steps kt_75.2 2 rfl ?_
        refine px_PW.br (fun c5 => ?_) (fun c5 => ?_)
        · have c5 : bits = 0 := of_decide_eq_true c5
          refine px_PW.steps kt_75.2 2 rfl ?_
          refine px_op_sh kt_75.2 hk rfl ?_
          refine px_PW.steps kt_75.2 1 rfl ?_
          refine px_PW.getf kt_75.2 rfl (ch_sh hk) rfl ?_
          refine px_PW.steps kt_75.2 1 rfl ?_
          refine px_PW.callV kt_75.2 rfl rfl (ch_isO (by omega)) rfl (nb_fill (q := (19 + k)) (by omega) _) (by decide) (fun v h1 q => ?_)
          obtain ⟨rfl, rfl⟩ := q
          refine px_PW.steps kt_75.2 1 rfl ?_
          refine px_PW.ret kt_75.2 rfl rfl ?_
          have E : s_sheet Z N F k bits n = (1, (upd Z (2 + k) bits), (upd N (19 + k) (Int32.ofNat (px_fz n (px_lim (19 + k))))), (va_up F (19 + k) (px_zf (F (19 + k)) 0 (px_fz n (px_lim (19 + k)))))) := (if_pos c0).trans ((if_neg c1).trans ((if_pos c4).trans (if_pos c5)))
          rw [E]
          exact ⟨rfl, _, _, _, px_sc.rf, rfl⟩
        · have c5 : ¬ (bits = 0) := of_decide_eq_false c5
          refine px_PW.steps kt_75.2 3 rfl ?_
          refine px_PW.br (fun c6 => ?_) (fun c6 => ?_)
          · have c6 : n ≤ 24 := of_decide_eq_true c6
            refine px_PW.steps kt_75.2 2 rfl ?_
            refine px_op_sh kt_75.2 hk rfl ?_
            refine px_PW.steps kt_75.2 1 rfl ?_
            refine px_PW.getf kt_75.2 rfl (ch_sh hk) rfl ?_
            refine px_PW.steps kt_75.2 1 rfl ?_
            refine px_PW.callV kt_75.2 rfl rfl (ch_isO (by omega)) rfl (nb_fill (q := (19 + k)) (by omega) _) (by decide) (fun v h1 q => ?_)
            obtain ⟨rfl, rfl⟩ := q
            refine px_PW.steps kt_75.2 1 rfl ?_
            refine px_PW.ret kt_75.2 rfl rfl ?_
            have E : s_sheet Z N F k bits n = (1, (upd Z (2 + k) bits), (upd N (19 + k) (Int32.ofNat (px_fz n (px_lim (19 + k))))), (va_up F (19 + k) (px_zf (F (19 + k)) 0 (px_fz n (px_lim (19 + k)))))) := (if_pos c0).trans ((if_neg c1).trans ((if_pos c4).trans ((if_neg c5).trans (if_pos c6))))
            rw [E]
            exact ⟨rfl, _, _, _, px_sc.rf, rfl⟩
          · have c6 : ¬ (n ≤ 24) := of_decide_eq_false c6
            refine px_PW.steps kt_75.2 2 rfl ?_
            refine px_PW.callV kt_75.2 rfl rfl rfl rfl (cc_error hw.2.2.1 1 (by decide)) (by decide) (fun v h1 q => ?_)
            obtain ⟨rfl, rfl⟩ := q
            refine px_PW.ret kt_75.2 rfl rfl ?_
            have E : s_sheet Z N F k bits n = ((-1000000000 - 1), Z, N, F) := (if_pos c0).trans ((if_neg c1).trans ((if_pos c4).trans ((if_neg c5).trans (if_neg c6))))
            rw [E]
            exact ⟨rfl, _, _, _, px_sc.err, rfl⟩
      · have c4 : ¬ (0 ≤ n) := of_decide_eq_false c4
        refine px_PW.steps kt_75.2 2 rfl ?_
        refine px_PW.callV kt_75.2 rfl rfl rfl rfl (cc_error hw.2.2.1 3 (by decide)) (by decide) (fun v h1 q => ?_)
        obtain ⟨rfl, rfl⟩ := q
        refine px_PW.ret kt_75.2 rfl rfl ?_
        have E : s_sheet Z N F k bits n = ((-1000000000 - 3), Z, N, F) := (if_pos c0).trans ((if_neg c1).trans (if_neg c4))
        rw [E]
        exact ⟨rfl, _, _, _, px_sc.err, rfl⟩
  · have c0 : ¬ (bits = 0) := of_decide_eq_false c0
    refine px_PW.steps kt_75.2 3 rfl ?_
    refine px_PW.br (fun c7 => ?_) (fun c7 => ?_)
    · have c7 : bits = 8 := of_decide_eq_true c7
      refine px_PW.steps kt_75.2 2 rfl ?_
      refine px_PW.br (fun c8 => ?_) (fun c8 => ?_)
      · have c8 : bits = 0 := of_decide_eq_true c8
        refine px_PW.steps kt_75.2 2 rfl ?_
        refine px_PW.br (fun c9 => ?_) (fun c9 => ?_)
        · have c9 : bits = 0 := of_decide_eq_true c9
          refine px_PW.steps kt_75.2 2 rfl ?_
          refine px_op_sh kt_75.2 hk rfl ?_
          refine px_PW.steps kt_75.2 1 rfl ?_
          refine px_PW.getf kt_75.2 rfl (ch_sh hk) rfl ?_
          refine px_PW.steps kt_75.2 1 rfl ?_
          refine px_PW.callV kt_75.2 rfl rfl (ch_isO (by omega)) rfl (nb_fill (q := (19 + k)) (by omega) _) (by decide) (fun v h1 q => ?_)
          obtain ⟨rfl, rfl⟩ := q
          refine px_PW.steps kt_75.2 1 rfl ?_
          refine px_PW.ret kt_75.2 rfl rfl ?_
          have E : s_sheet Z N F k bits n = (1, (upd Z (2 + k) bits), (upd N (19 + k) (Int32.ofNat (px_fz n (px_lim (19 + k))))), (va_up F (19 + k) (px_zf (F (19 + k)) 0 (px_fz n (px_lim (19 + k)))))) := (if_neg c0).trans ((if_pos c7).trans ((if_pos c8).trans (if_pos c9)))
          rw [E]
          exact ⟨rfl, _, _, _, px_sc.rf, rfl⟩
        · have c9 : ¬ (bits = 0) := of_decide_eq_false c9
          refine px_PW.steps kt_75.2 3 rfl ?_
          refine px_PW.br (fun c10 => ?_) (fun c10 => ?_)
          · have c10 : n ≤ 24 := of_decide_eq_true c10
            refine px_PW.steps kt_75.2 2 rfl ?_
            refine px_op_sh kt_75.2 hk rfl ?_
            refine px_PW.steps kt_75.2 1 rfl ?_
            refine px_PW.getf kt_75.2 rfl (ch_sh hk) rfl ?_
            refine px_PW.steps kt_75.2 1 rfl ?_
            refine px_PW.callV kt_75.2 rfl rfl (ch_isO (by omega)) rfl (nb_fill (q := (19 + k)) (by omega) _) (by decide) (fun v h1 q => ?_)
            obtain ⟨rfl, rfl⟩ := q
            refine px_PW.steps kt_75.2 1 rfl ?_
            refine px_PW.ret kt_75.2 rfl rfl ?_
            have E : s_sheet Z N F k bits n = (1, (upd Z (2 + k) bits), (upd N (19 + k) (Int32.ofNat (px_fz n (px_lim (19 + k))))), (va_up F (19 + k) (px_zf (F (19 + k)) 0 (px_fz n (px_lim (19 + k)))))) := (if_neg c0).trans ((if_pos c7).trans ((if_pos c8).trans ((if_neg c9).trans (if_pos c10))))
            rw [E]
            exact ⟨rfl, _, _, _, px_sc.rf, rfl⟩
          · have c10 : ¬ (n ≤ 24) := of_decide_eq_false c10
            refine px_PW.steps kt_75.2 2 rfl ?_
            refine px_PW.callV kt_75.2 rfl rfl rfl rfl (cc_error hw.2.2.1 1 (by decide)) (by decide) (fun v h1 q => ?_)
            obtain ⟨rfl, rfl⟩ := q
            refine px_PW.ret kt_75.2 rfl rfl ?_
            have E : s_sheet Z N F k bits n = ((-1000000000 - 1), Z, N, F) := (if_neg c0).trans ((if_pos c7).trans ((if_pos c8).trans ((if_neg c9).trans (if_neg c10))))
            rw [E]
            exact ⟨rfl, _, _, _, px_sc.err, rfl⟩
      · have c8 : ¬ (bits = 0) := of_decide_eq_false c8
        refine px_PW.steps kt_75.2 2 rfl ?_
        refine px_PW.br (fun c11 => ?_) (fun c11 => ?_)
        · have c11 : 0 ≤ n := of_decide_eq_true c11
          refine px_PW.steps kt_75.2 2 rfl ?_
          refine px_PW.br (fun c12 => ?_) (fun c12 => ?_)
          · have c12 : bits = 0 := of_decide_eq_true c12
            refine px_PW.steps kt_75.2 2 rfl ?_
            refine px_op_sh kt_75.2 hk rfl ?_
            refine px_PW.steps kt_75.2 1 rfl ?_
            refine px_PW.getf kt_75.2 rfl (ch_sh hk) rfl ?_
            refine px_PW.steps kt_75.2 1 rfl ?_
            refine px_PW.callV kt_75.2 rfl rfl (ch_isO (by omega)) rfl (nb_fill (q := (19 + k)) (by omega) _) (by decide) (fun v h1 q => ?_)
            obtain ⟨rfl, rfl⟩ := q
            refine px_PW.steps kt_75.2 1 rfl ?_
            refine px_PW.ret kt_75.2 rfl rfl ?_
            have E : s_sheet Z N F k bits n = (1, (upd Z (2 + k) bits), (upd N (19 + k) (Int32.ofNat (px_fz n (px_lim (19 + k))))), (va_up F (19 + k) (px_zf (F (19 + k)) 0 (px_fz n (px_lim (19 + k)))))) := (if_neg c0).trans ((if_pos c7).trans ((if_neg c8).trans ((if_pos c11).trans (if_pos c12))))
            rw [E]
            exact ⟨rfl, _, _, _, px_sc.rf, rfl⟩
          · have c12 : ¬ (bits = 0) := of_decide_eq_false c12
            refine px_PW.steps kt_75.2 3 rfl ?_
            refine px_PW.br (fun c13 => ?_) (fun c13 => ?_)
            · have c13 : n ≤ 24 := of_decide_eq_true c13
              refine px_PW.steps kt_75.2 2 rfl ?_
              refine px_op_sh kt_75.2 hk rfl ?_
              refine px_PW.steps kt_75.2 1 rfl ?_
              refine px_PW.getf kt_75.2 rfl (ch_sh hk) rfl ?_
              refine px_PW.steps kt_75.2 1 rfl ?_
              refine px_PW.callV kt_75.2 rfl rfl (ch_isO (by omega)) rfl (nb_fill (q := (19 + k)) (by omega) _) (by decide) (fun v h1 q => ?_)
              obtain ⟨rfl, rfl⟩ := q
              refine px_PW.steps kt_75.2 1 rfl ?_
              refine px_PW.ret kt_75.2 rfl rfl ?_
              have E : s_sheet Z N F k bits n = (1, (upd Z (2 + k) bits), (upd N (19 + k) (Int32.ofNat (px_fz n (px_lim (19 + k))))), (va_up F (19 + k) (px_zf (F (19 + k)) 0 (px_fz n (px_lim (19 + k)))))) := (if_neg c0).trans ((if_pos c7).trans ((if_neg c8).trans ((if_pos c11).trans ((if_neg c12).trans (if_pos c13)))))
              rw [E]
              exact ⟨rfl, _, _, _, px_sc.rf, rfl⟩
            · have c13 : ¬ (n ≤ 24) := of_decide_eq_false c13
              refine px_PW.steps kt_75.2 2 rfl ?_
              refine px_PW.callV kt_75.2 rfl rfl rfl rfl (cc_error hw.2.2.1 1 (by decide)) (by decide) (fun v h1 q => ?_)
              obtain ⟨rfl, rfl⟩ := q
              refine px_PW.ret kt_75.2 rfl rfl ?_
              have E : s_sheet Z N F k bits n = ((-1000000000 - 1), Z, N, F) := (if_neg c0).trans ((if_pos c7).trans ((if_neg c8).trans ((if_pos c11).trans ((if_neg c12).trans (if_neg c13)))))
              rw [E]
              exact ⟨rfl, _, _, _, px_sc.err, rfl⟩
        · have c11 : ¬ (0 ≤ n) := of_decide_eq_false c11
          refine px_PW.steps kt_75.2 2 rfl ?_
          refine px_PW.callV kt_75.2 rfl rfl rfl rfl (cc_error hw.2.2.1 3 (by decide)) (by decide) (fun v h1 q => ?_)
          obtain ⟨rfl, rfl⟩ := q
          refine px_PW.ret kt_75.2 rfl rfl ?_
          have E : s_sheet Z N F k bits n = ((-1000000000 - 3), Z, N, F) := (if_neg c0).trans ((if_pos c7).trans ((if_neg c8).trans (if_neg c11)))
          rw [E]
          exact ⟨rfl, _, _, _, px_sc.err, rfl⟩
    · have c7 : ¬ (bits = 8) := of_decide_eq_false c7
      refine px_PW.steps kt_75.2 3 rfl ?_
      refine px_PW.br (fun c14 => ?_) (fun c14 => ?_)
      · have c14 : bits = 16 := of_decide_eq_true c14
        refine px_PW.steps kt_75.2 2 rfl ?_
        refine px_PW.br (fun c15 => ?_) (fun c15 => ?_)
        · have c15 : bits = 0 := of_decide_eq_true c15
          refine px_PW.steps kt_75.2 2 rfl ?_
          refine px_PW.br (fun c16 => ?_) (fun c16 => ?_)
          · have c16 : bits = 0 := of_decide_eq_true c16
            refine px_PW.steps kt_75.2 2 rfl ?_
            refine px_op_sh kt_75.2 hk rfl ?_
            refine px_PW.steps kt_75.2 1 rfl ?_
            refine px_PW.getf kt_75.2 rfl (ch_sh hk) rfl ?_
            refine px_PW.steps kt_75.2 1 rfl ?_
            refine px_PW.callV kt_75.2 rfl rfl (ch_isO (by omega)) rfl (nb_fill (q := (19 + k)) (by omega) _) (by decide) (fun v h1 q => ?_)
            obtain ⟨rfl, rfl⟩ := q
            refine px_PW.steps kt_75.2 1 rfl ?_
            refine px_PW.ret kt_75.2 rfl rfl ?_
            have E : s_sheet Z N F k bits n = (1, (upd Z (2 + k) bits), (upd N (19 + k) (Int32.ofNat (px_fz n (px_lim (19 + k))))), (va_up F (19 + k) (px_zf (F (19 + k)) 0 (px_fz n (px_lim (19 + k)))))) := (if_neg c0).trans ((if_neg c7).trans ((if_pos c14).trans ((if_pos c15).trans (if_pos c16))))
            rw [E]
            exact ⟨rfl, _, _, _, px_sc.rf, rfl⟩
          · have c16 : ¬ (bits = 0) := of_decide_eq_false c16
            refine px_PW.steps kt_75.2 3 rfl ?_
            refine px_PW.br (fun c17 => ?_) (fun c17 => ?_)
            · have c17 : n ≤ 24 := of_decide_eq_true c17
              refine px_PW.steps kt_75.2 2 rfl ?_
              refine px_op_sh kt_75.2 hk rfl ?_
              refine px_PW.steps kt_75.2 1 rfl ?_
              refine px_PW.getf kt_75.2 rfl (ch_sh hk) rfl ?_
              refine px_PW.steps kt_75.2 1 rfl ?_
              refine px_PW.callV kt_75.2 rfl rfl (ch_isO (by omega)) rfl (nb_fill (q := (19 + k)) (by omega) _) (by decide) (fun v h1 q => ?_)
              obtain ⟨rfl, rfl⟩ := q
              refine px_PW.steps kt_75.2 1 rfl ?_
              refine px_PW.ret kt_75.2 rfl rfl ?_
              have E : s_sheet Z N F k bits n = (1, (upd Z (2 + k) bits), (upd N (19 + k) (Int32.ofNat (px_fz n (px_lim (19 + k))))), (va_up F (19 + k) (px_zf (F (19 + k)) 0 (px_fz n (px_lim (19 + k)))))) := (if_neg c0).trans ((if_neg c7).trans ((if_pos c14).trans ((if_pos c15).trans ((if_neg c16).trans (if_pos c17)))))
              rw [E]
              exact ⟨rfl, _, _, _, px_sc.rf, rfl⟩
            · have c17 : ¬ (n ≤ 24) := of_decide_eq_false c17
              refine px_PW.steps kt_75.2 2 rfl ?_
              refine px_PW.callV kt_75.2 rfl rfl rfl rfl (cc_error hw.2.2.1 1 (by decide)) (by decide) (fun v h1 q => ?_)
              obtain ⟨rfl, rfl⟩ := q
              refine px_PW.ret kt_75.2 rfl rfl ?_
              have E : s_sheet Z N F k bits n = ((-1000000000 - 1), Z, N, F) := (if_neg c0).trans ((if_neg c7).trans ((if_pos c14).trans ((if_pos c15).trans ((if_neg c16).trans (if_neg c17)))))
              rw [E]
              exact ⟨rfl, _, _, _, px_sc.err, rfl⟩
        · have c15 : ¬ (bits = 0) := of_decide_eq_false c15
          refine px_PW.steps kt_75.2 2 rfl ?_
          refine px_PW.br (fun c18 => ?_) (fun c18 => ?_)
          · have c18 : 0 ≤ n := of_decide_eq_true c18
            refine px_PW.steps kt_75.2 2 rfl ?_
            refine px_PW.br (fun c19 => ?_) (fun c19 => ?_)
            · have c19 : bits = 0 := of_decide_eq_true c19
              refine px_PW.steps kt_75.2 2 rfl ?_
              refine px_op_sh kt_75.2 hk rfl ?_
              refine px_PW.steps kt_75.2 1 rfl ?_
              refine px_PW.getf kt_75.2 rfl (ch_sh hk) rfl ?_
              refine px_PW.steps kt_75.2 1 rfl ?_
              refine px_PW.callV kt_75.2 rfl rfl (ch_isO (by omega)) rfl (nb_fill (q := (19 + k)) (by omega) _) (by decide) (fun v h1 q => ?_)
              obtain ⟨rfl, rfl⟩ := q
              refine px_PW.steps kt_75.2 1 rfl ?_
              refine px_PW.ret kt_75.2 rfl rfl ?_
              have E : s_sheet Z N F k bits n = (1, (upd Z (2 + k) bits), (upd N (19 + k) (Int32.ofNat (px_fz n (px_lim (19 + k))))), (va_up F (19 + k) (px_zf (F (19 + k)) 0 (px_fz n (px_lim (19 + k)))))) := (if_neg c0).trans ((if_neg c7).trans ((if_pos c14).trans ((if_neg c15).trans ((if_pos c18).trans (if_pos c19)))))
              rw [E]
              exact ⟨rfl, _, _, _, px_sc.rf, rfl⟩
            · have c19 : ¬ (bits = 0) := of_decide_eq_false c19
              refine px_PW.steps kt_75.2 3 rfl ?_
              refine px_PW.br (fun c20 => ?_) (fun c20 => ?_)
              · have c20 : n ≤ 24 := of_decide_eq_true c20
                refine px_PW.steps kt_75.2 2 rfl ?_
                refine px_op_sh kt_75.2 hk rfl ?_
                refine px_PW.steps kt_75.2 1 rfl ?_
                refine px_PW.getf kt_75.2 rfl (ch_sh hk) rfl ?_
                refine px_PW.steps kt_75.2 1 rfl ?_
                refine px_PW.callV kt_75.2 rfl rfl (ch_isO (by omega)) rfl (nb_fill (q := (19 + k)) (by omega) _) (by decide) (fun v h1 q => ?_)
                obtain ⟨rfl, rfl⟩ := q
                refine px_PW.steps kt_75.2 1 rfl ?_
                refine px_PW.ret kt_75.2 rfl rfl ?_
                have E : s_sheet Z N F k bits n = (1, (upd Z (2 + k) bits), (upd N (19 + k) (Int32.ofNat (px_fz n (px_lim (19 + k))))), (va_up F (19 + k) (px_zf (F (19 + k)) 0 (px_fz n (px_lim (19 + k)))))) := (if_neg c0).trans ((if_neg c7).trans ((if_pos c14).trans ((if_neg c15).trans ((if_pos c18).trans ((if_neg c19).trans (if_pos c20))))))
                rw [E]
                exact ⟨rfl, _, _, _, px_sc.rf, rfl⟩
              · have c20 : ¬ (n ≤ 24) := of_decide_eq_false c20
                refine px_PW.steps kt_75.2 2 rfl ?_
                refine px_PW.callV kt_75.2 rfl rfl rfl rfl (cc_error hw.2.2.1 1 (by decide)) (by decide) (fun v h1 q => ?_)
                obtain ⟨rfl, rfl⟩ := q
                refine px_PW.ret kt_75.2 rfl rfl ?_
                have E : s_sheet Z N F k bits n = ((-1000000000 - 1), Z, N, F) := (if_neg c0).trans ((if_neg c7).trans ((if_pos c14).trans ((if_neg c15).trans ((if_pos c18).trans ((if_neg c19).trans (if_neg c20))))))
                rw [E]
                exact ⟨rfl, _, _, _, px_sc.err, rfl⟩
          · have c18 : ¬ (0 ≤ n) := of_decide_eq_false c18
            refine px_PW.steps kt_75.2 2 rfl ?_
            refine px_PW.callV kt_75.2 rfl rfl rfl rfl (cc_error hw.2.2.1 3 (by decide)) (by decide) (fun v h1 q => ?_)
            obtain ⟨rfl, rfl⟩ := q
            refine px_PW.ret kt_75.2 rfl rfl ?_
            have E : s_sheet Z N F k bits n = ((-1000000000 - 3), Z, N, F) := (if_neg c0).trans ((if_neg c7).trans ((if_pos c14).trans ((if_neg c15).trans (if_neg c18))))
            rw [E]
            exact ⟨rfl, _, _, _, px_sc.err, rfl⟩
      · have c14 : ¬ (bits = 16) := of_decide_eq_false c14
        refine px_PW.steps kt_75.2 3 rfl ?_
        refine px_PW.br (fun c21 => ?_) (fun c21 => ?_)
        · have c21 : bits = 32 := of_decide_eq_true c21
          refine px_PW.steps kt_75.2 2 rfl ?_
          refine px_PW.br (fun c22 => ?_) (fun c22 => ?_)
          · have c22 : bits = 0 := of_decide_eq_true c22
            refine px_PW.steps kt_75.2 2 rfl ?_
            refine px_PW.br (fun c23 => ?_) (fun c23 => ?_)
            · have c23 : bits = 0 := of_decide_eq_true c23
              refine px_PW.steps kt_75.2 2 rfl ?_
              refine px_op_sh kt_75.2 hk rfl ?_
              refine px_PW.steps kt_75.2 1 rfl ?_
              refine px_PW.getf kt_75.2 rfl (ch_sh hk) rfl ?_
              refine px_PW.steps kt_75.2 1 rfl ?_
              refine px_PW.callV kt_75.2 rfl rfl (ch_isO (by omega)) rfl (nb_fill (q := (19 + k)) (by omega) _) (by decide) (fun v h1 q => ?_)
              obtain ⟨rfl, rfl⟩ := q
              refine px_PW.steps kt_75.2 1 rfl ?_
              refine px_PW.ret kt_75.2 rfl rfl ?_
              have E : s_sheet Z N F k bits n = (1, (upd Z (2 + k) bits), (upd N (19 + k) (Int32.ofNat (px_fz n (px_lim (19 + k))))), (va_up F (19 + k) (px_zf (F (19 + k)) 0 (px_fz n (px_lim (19 + k)))))) := (if_neg c0).trans ((if_neg c7).trans ((if_neg c14).trans ((if_pos c21).trans ((if_pos c22).trans (if_pos c23)))))
              rw [E]
              exact ⟨rfl, _, _, _, px_sc.rf, rfl⟩
            · have c23 : ¬ (bits = 0) := of_decide_eq_false c23
              refine px_PW.steps kt_75.2 3 rfl ?_
              refine px_PW.br (fun c24 => ?_) (fun c24 => ?_)
              · have c24 : n ≤ 24 := of_decide_eq_true c24
                refine px_PW.steps kt_75.2 2 rfl ?_
                refine px_op_sh kt_75.2 hk rfl ?_
                refine px_PW.steps kt_75.2 1 rfl ?_
                refine px_PW.getf kt_75.2 rfl (ch_sh hk) rfl ?_
                refine px_PW.steps kt_75.2 1 rfl ?_
                refine px_PW.callV kt_75.2 rfl rfl (ch_isO (by omega)) rfl (nb_fill (q := (19 + k)) (by omega) _) (by decide) (fun v h1 q => ?_)
                obtain ⟨rfl, rfl⟩ := q
                refine px_PW.steps kt_75.2 1 rfl ?_
                refine px_PW.ret kt_75.2 rfl rfl ?_
                have E : s_sheet Z N F k bits n = (1, (upd Z (2 + k) bits), (upd N (19 + k) (Int32.ofNat (px_fz n (px_lim (19 + k))))), (va_up F (19 + k) (px_zf (F (19 + k)) 0 (px_fz n (px_lim (19 + k)))))) := (if_neg c0).trans ((if_neg c7).trans ((if_neg c14).trans ((if_pos c21).trans ((if_pos c22).trans ((if_neg c23).trans (if_pos c24))))))
                rw [E]
                exact ⟨rfl, _, _, _, px_sc.rf, rfl⟩
              · have c24 : ¬ (n ≤ 24) := of_decide_eq_false c24
                refine px_PW.steps kt_75.2 2 rfl ?_
                refine px_PW.callV kt_75.2 rfl rfl rfl rfl (cc_error hw.2.2.1 1 (by decide)) (by decide) (fun v h1 q => ?_)
                obtain ⟨rfl, rfl⟩ := q
                refine px_PW.ret kt_75.2 rfl rfl ?_
                have E : s_sheet Z N F k bits n = ((-1000000000 - 1), Z, N, F) := (if_neg c0).trans ((if_neg c7).trans ((if_neg c14).trans ((if_pos c21).trans ((if_pos c22).trans ((if_neg c23).trans (if_neg c24))))))
                rw [E]
                exact ⟨rfl, _, _, _, px_sc.err, rfl⟩
          · have c22 : ¬ (bits = 0) := of_decide_eq_false c22
            refine px_PW.steps kt_75.2 2 rfl ?_
            refine px_PW.br (fun c25 => ?_) (fun c25 => ?_)
            · have c25 : 0 ≤ n := of_decide_eq_true c25
              refine px_PW.steps kt_75.2 2 rfl ?_
              refine px_PW.br (fun c26 => ?_) (fun c26 => ?_)
              · have c26 : bits = 0 := of_decide_eq_true c26
                refine px_PW.steps kt_75.2 2 rfl ?_
                refine px_op_sh kt_75.2 hk rfl ?_
                refine px_PW.steps kt_75.2 1 rfl ?_
                refine px_PW.getf kt_75.2 rfl (ch_sh hk) rfl ?_
                refine px_PW.steps kt_75.2 1 rfl ?_
                refine px_PW.callV kt_75.2 rfl rfl (ch_isO (by omega)) rfl (nb_fill (q := (19 + k)) (by omega) _) (by decide) (fun v h1 q => ?_)
                obtain ⟨rfl, rfl⟩ := q
                refine px_PW.steps kt_75.2 1 rfl ?_
                refine px_PW.ret kt_75.2 rfl rfl ?_
                have E : s_sheet Z N F k bits n = (1, (upd Z (2 + k) bits), (upd N (19 + k) (Int32.ofNat (px_fz n (px_lim (19 + k))))), (va_up F (19 + k) (px_zf (F (19 + k)) 0 (px_fz n (px_lim (19 + k)))))) := (if_neg c0).trans ((if_neg c7).trans ((if_neg c14).trans ((if_pos c21).trans ((if_neg c22).trans ((if_pos c25).trans (if_pos c26))))))
                rw [E]
                exact ⟨rfl, _, _, _, px_sc.rf, rfl⟩
              · have c26 : ¬ (bits = 0) := of_decide_eq_false c26
                refine px_PW.steps kt_75.2 3 rfl ?_
                refine px_PW.br (fun c27 => ?_) (fun c27 => ?_)
                · have c27 : n ≤ 24 := of_decide_eq_true c27
                  refine px_PW.steps kt_75.2 2 rfl ?_
                  refine px_op_sh kt_75.2 hk rfl ?_
                  refine px_PW.steps kt_75.2 1 rfl ?_
                  refine px_PW.getf kt_75.2 rfl (ch_sh hk) rfl ?_
                  refine px_PW.steps kt_75.2 1 rfl ?_
                  refine px_PW.callV kt_75.2 rfl rfl (ch_isO (by omega)) rfl (nb_fill (q := (19 + k)) (by omega) _) (by decide) (fun v h1 q => ?_)
                  obtain ⟨rfl, rfl⟩ := q
                  refine px_PW.steps kt_75.2 1 rfl ?_
                  refine px_PW.ret kt_75.2 rfl rfl ?_
                  have E : s_sheet Z N F k bits n = (1, (upd Z (2 + k) bits), (upd N (19 + k) (Int32.ofNat (px_fz n (px_lim (19 + k))))), (va_up F (19 + k) (px_zf (F (19 + k)) 0 (px_fz n (px_lim (19 + k)))))) := (if_neg c0).trans ((if_neg c7).trans ((if_neg c14).trans ((if_pos c21).trans ((if_neg c22).trans ((if_pos c25).trans ((if_neg c26).trans (if_pos c27)))))))
                  rw [E]
                  exact ⟨rfl, _, _, _, px_sc.rf, rfl⟩
                · have c27 : ¬ (n ≤ 24) := of_decide_eq_false c27
                  refine px_PW.steps kt_75.2 2 rfl ?_
                  refine px_PW.callV kt_75.2 rfl rfl rfl rfl (cc_error hw.2.2.1 1 (by decide)) (by decide) (fun v h1 q => ?_)
                  obtain ⟨rfl, rfl⟩ := q
                  refine px_PW.ret kt_75.2 rfl rfl ?_
                  have E : s_sheet Z N F k bits n = ((-1000000000 - 1), Z, N, F) := (if_neg c0).trans ((if_neg c7).trans ((if_neg c14).trans ((if_pos c21).trans ((if_neg c22).trans ((if_pos c25).trans ((if_neg c26).trans (if_neg c27)))))))
                  rw [E]
                  exact ⟨rfl, _, _, _, px_sc.err, rfl⟩
            · have c25 : ¬ (0 ≤ n) := of_decide_eq_false c25
              refine px_PW.steps kt_75.2 2 rfl ?_
              refine px_PW.callV kt_75.2 rfl rfl rfl rfl (cc_error hw.2.2.1 3 (by decide)) (by decide) (fun v h1 q => ?_)
              obtain ⟨rfl, rfl⟩ := q
              refine px_PW.ret kt_75.2 rfl rfl ?_
              have E : s_sheet Z N F k bits n = ((-1000000000 - 3), Z, N, F) := (if_neg c0).trans ((if_neg c7).trans ((if_neg c14).trans ((if_pos c21).trans ((if_neg c22).trans (if_neg c25)))))
              rw [E]
              exact ⟨rfl, _, _, _, px_sc.err, rfl⟩
        · have c21 : ¬ (bits = 32) := of_decide_eq_false c21
          refine px_PW.steps kt_75.2 2 rfl ?_
          refine px_PW.callV kt_75.2 rfl rfl rfl rfl (cc_error hw.2.2.1 1 (by decide)) (by decide) (fun v h1 q => ?_)
          obtain ⟨rfl, rfl⟩ := q
          refine px_PW.ret kt_75.2 rfl rfl ?_
          have E : s_sheet Z N F k bits n = ((-1000000000 - 1), Z, N, F) := (if_neg c0).trans ((if_neg c7).trans ((if_neg c14).trans (if_neg c21)))
          rw [E]
          exact ⟨rfl, _, _, _, px_sc.err, rfl⟩
def s_sheetB (Z N : Nat → Int32) (F : Nat → Nat → Int32) (sheet : Int32) (bits : Int32) (n : Int32) : Int32 × (Nat → Int32) × (Nat → Int32) × (Nat → Nat → Int32) := ((-1000000000 - 1), Z, N, F)
theorem kc_sheetB {Z N : Nat → Int32} {F : Nat → Nat → Int32} (hw : px_cw N) (sheet : Int32) (bits : Int32) (n : Int32) (hb : sheet < 0 ∨ 4 ≤ sheet) : px_PM 3 75 [.ref 0, .int sheet, .int bits, .int n] (px_CH Z N F, []) (fun r h' => r = some (.int (s_sheetB Z N F sheet bits n).1) ∧ ∃ Z' N' F', px_sc (s_sheetB Z N F sheet bits n).2.1 (s_sheetB Z N F sheet bits n).2.2.1 (s_sheetB Z N F sheet bits n).2.2.2 Z' N' F' ∧ h' = (px_CH Z' N' F', [])) := by
  refine px_PM.start (nL := 5) (code := pc_75) rfl rfl ?_
  refine px_PW.steps kt_75.2 2 rfl ?_
  refine px_PW.callV kt_75.2 rfl rfl rfl rfl (cc_sheetAtB _ hb) (by decide) (fun v h1 q => ?_)
  obtain ⟨rfl, rfl⟩ := q
  refine px_PW.steps kt_75.2 5 rfl ?_
  refine px_PW.callV kt_75.2 rfl rfl rfl rfl (cc_error hw.2.2.1 1 (by decide)) (by decide) (fun v h1 q => ?_)
  obtain ⟨rfl, rfl⟩ := q
  refine px_PW.ret kt_75.2 rfl rfl ?_
  have E : s_sheetB Z N F sheet bits n = ((-1000000000 - 1), Z, N, F) := rfl
  rw [E]
  exact ⟨rfl, _, _, _, px_sc.err, rfl⟩
def s_put (Z N : Nat → Int32) (F : Nat → Nat → Int32) (k : Nat) (i : Int32) (v : Int32) : Int32 × (Nat → Int32) × (Nat → Int32) × (Nat → Nat → Int32) := (if (Z (2 + k)) = 0 then ((-1000000000 - 2), Z, N, F) else (if i < 0 ∨ (N (19 + k)) ≤ i then ((-1000000000 - 1), Z, N, F) else (1, Z, N, (va_up F (19 + k) (upd (F (19 + k)) (i).toNatClampNeg (s_low (Z (2 + k)) v))))))
theorem kc_put {Z N : Nat → Int32} {F : Nat → Nat → Int32} (hw : px_cw N) (k : Nat) (hk : k < 4) (i : Int32) (v : Int32) : px_PM 3 76 [.ref 0, .int (nI k), .int i, .int v] (px_CH Z N F, []) (fun r h' => r = some (.int (s_put Z N F k i v).1) ∧ ∃ Z' N' F', px_sc (s_put Z N F k i v).2.1 (s_put Z N F k i v).2.2.1 (s_put Z N F k i v).2.2.2 Z' N' F' ∧ h' = (px_CH Z' N' F', [])) := by
  refine px_PM.start (nL := 5) (code := pc_76) rfl rfl ?_
  refine px_PW.steps kt_76.2 2 rfl ?_
  refine px_PW.callV kt_76.2 rfl rfl rfl rfl (cc_sheetAt k hk) (by decide) (fun v h1 q => ?_)
  obtain ⟨rfl, rfl⟩ := q
  refine px_PW.steps kt_76.2 4 rfl ?_
  refine px_PW.callV kt_76.2 rfl rfl (ch_isSh hk) rfl (cc_isMissing hk) (by decide) (fun v h1 q => ?_)
  obtain ⟨rfl, rfl⟩ := q
  refine px_PW.steps kt_76.2 1 rfl ?_
  refine px_PW.br (fun c0 => ?_) (fun c0 => ?_)
  · have c0 : ¬ ((Z (2 + k)) = 0) := px_b1z (of_decide_eq_true c0)
    refine px_PW.steps kt_76.2 1 rfl ?_
    refine px_PW.getf kt_76.2 rfl (ch_sh hk) rfl ?_
    refine px_PW.steps kt_76.2 1 rfl ?_
    refine px_PW.callV kt_76.2 rfl rfl (ch_isO (by omega)) rfl (nb_stands (q := 19 + k) (by omega) _) (by decide) (fun v h1 q => ?_)
    obtain ⟨rfl, rfl⟩ := q
    refine px_PW.steps kt_76.2 1 rfl ?_
    refine px_PW.br (fun c1 => ?_) (fun c1 => ?_)
    · have c1 : ¬ (i < 0 ∨ (N (19 + k)) ≤ i) := px_b0n (of_decide_eq_false (px_nt c1))
      refine px_PW.steps kt_76.2 1 rfl ?_
      refine px_PW.getf kt_76.2 rfl (ch_sh hk) rfl ?_
      refine px_PW.steps kt_76.2 3 rfl ?_
      refine px_PW.callV kt_76.2 rfl rfl (ch_isSh hk) rfl (cc_low hk _) (by decide) (fun v h1 q => ?_)
      obtain ⟨rfl, rfl⟩ := q
      refine px_PW.callV kt_76.2 rfl rfl (ch_isO (by omega)) rfl (nb_setS (q := (19 + k)) (by omega) (hw.lim (by omega)) c1 _) (by decide) (fun v h1 q => ?_)
      obtain ⟨rfl, rfl⟩ := q
      refine px_PW.steps kt_76.2 1 rfl ?_
      refine px_PW.ret kt_76.2 rfl rfl ?_
      have E : s_put Z N F k i v = (1, Z, N, (va_up F (19 + k) (upd (F (19 + k)) (i).toNatClampNeg (s_low (Z (2 + k)) v)))) := (if_neg c0).trans (if_neg c1)
      rw [E]
      exact ⟨rfl, _, _, _, px_sc.rf, rfl⟩
    · have c1 : i < 0 ∨ (N (19 + k)) ≤ i := px_b0z (of_decide_eq_true (px_nf c1))
      refine px_PW.steps kt_76.2 2 rfl ?_
      refine px_PW.callV kt_76.2 rfl rfl rfl rfl (cc_error hw.2.2.1 1 (by decide)) (by decide) (fun v h1 q => ?_)
      obtain ⟨rfl, rfl⟩ := q
      refine px_PW.ret kt_76.2 rfl rfl ?_
      have E : s_put Z N F k i v = ((-1000000000 - 1), Z, N, F) := (if_neg c0).trans (if_pos c1)
      rw [E]
      exact ⟨rfl, _, _, _, px_sc.err, rfl⟩
  · have c0 : (Z (2 + k)) = 0 := px_b1n (of_decide_eq_false c0)
    refine px_PW.steps kt_76.2 2 rfl ?_
    refine px_PW.callV kt_76.2 rfl rfl rfl rfl (cc_error hw.2.2.1 2 (by decide)) (by decide) (fun v h1 q => ?_)
    obtain ⟨rfl, rfl⟩ := q
    refine px_PW.ret kt_76.2 rfl rfl ?_
    have E : s_put Z N F k i v = ((-1000000000 - 2), Z, N, F) := if_pos c0
    rw [E]
    exact ⟨rfl, _, _, _, px_sc.err, rfl⟩
def s_putB (Z N : Nat → Int32) (F : Nat → Nat → Int32) (sheet : Int32) (i : Int32) (v : Int32) : Int32 × (Nat → Int32) × (Nat → Int32) × (Nat → Nat → Int32) := ((-1000000000 - 1), Z, N, F)
theorem kc_putB {Z N : Nat → Int32} {F : Nat → Nat → Int32} (hw : px_cw N) (sheet : Int32) (i : Int32) (v : Int32) (hb : sheet < 0 ∨ 4 ≤ sheet) : px_PM 3 76 [.ref 0, .int sheet, .int i, .int v] (px_CH Z N F, []) (fun r h' => r = some (.int (s_putB Z N F sheet i v).1) ∧ ∃ Z' N' F', px_sc (s_putB Z N F sheet i v).2.1 (s_putB Z N F sheet i v).2.2.1 (s_putB Z N F sheet i v).2.2.2 Z' N' F' ∧ h' = (px_CH Z' N' F', [])) := by
  refine px_PM.start (nL := 5) (code := pc_76) rfl rfl ?_
  refine px_PW.steps kt_76.2 2 rfl ?_
  refine px_PW.callV kt_76.2 rfl rfl rfl rfl (cc_sheetAtB _ hb) (by decide) (fun v h1 q => ?_)
  obtain ⟨rfl, rfl⟩ := q
  refine px_PW.steps kt_76.2 5 rfl ?_
  refine px_PW.callV kt_76.2 rfl rfl rfl rfl (cc_error hw.2.2.1 1 (by decide)) (by decide) (fun v h1 q => ?_)
  obtain ⟨rfl, rfl⟩ := q
  refine px_PW.ret kt_76.2 rfl rfl ?_
  have E : s_putB Z N F sheet i v = ((-1000000000 - 1), Z, N, F) := rfl
  rw [E]
  exact ⟨rfl, _, _, _, px_sc.err, rfl⟩
def s_move (Z N : Nat → Int32) (F : Nat → Nat → Int32) (k : Nat) (i : Int32) (k2 : Nat) (j : Int32) (n : Int32) : Int32 × (Nat → Int32) × (Nat → Int32) × (Nat → Nat → Int32) := (if (Z (2 + k)) = 0 then ((-1000000000 - 2), Z, N, F) else (if (Z (2 + k2)) = 0 then ((-1000000000 - 2), Z, N, F) else (if (Z (2 + k)) = (Z (2 + k2)) then (if i < 0 ∨ n < 0 ∨ (N (19 + k)) < n ∨ (N (19 + k)) - n < i then ((-1000000000 - 1), Z, N, F) else (if j < 0 ∨ n < 0 ∨ (N (19 + k2)) < n ∨ (N (19 + k2)) - n < j then ((-1000000000 - 1), Z, N, F) else (n, Z, N, (va_up F (19 + k2) (va_cpy (F (19 + k)) (F (19 + k2)) (i).toNatClampNeg (j).toNatClampNeg (n).toNatClampNeg))))) else ((-1000000000 - 5), Z, N, F))))
theorem kc_move {Z N : Nat → Int32} {F : Nat → Nat → Int32} (hw : px_cw N) (k : Nat) (i : Int32) (k2 : Nat) (j : Int32) (n : Int32) (hk : k < 4) (hk2 : k2 < 4) : px_PM 3 77 [.ref 0, .int (nI k), .int i, .int (nI k2), .int j, .int n] (px_CH Z N F, []) (fun r h' => r = some (.int (s_move Z N F k i k2 j n).1) ∧ ∃ Z' N' F', px_sc (s_move Z N F k i k2 j n).2.1 (s_move Z N F k i k2 j n).2.2.1 (s_move Z N F k i k2 j n).2.2.2 Z' N' F' ∧ h' = (px_CH Z' N' F', [])) := by
  refine px_PM.start (nL := 8) (code := pc_77) rfl rfl ?_
  refine px_PW.steps kt_77.2 2 rfl ?_
  refine px_PW.callV kt_77.2 rfl rfl rfl rfl (cc_sheetAt k hk) (by decide) (fun v h1 q => ?_)
  obtain ⟨rfl, rfl⟩ := q
  refine px_PW.steps kt_77.2 3 rfl ?_
  refine px_PW.callV kt_77.2 rfl rfl rfl rfl (cc_sheetAt k2 hk2) (by decide) (fun v h1 q => ?_)
  obtain ⟨rfl, rfl⟩ := q
  refine px_PW.steps kt_77.2 6 rfl ?_
  refine px_PW.callV kt_77.2 rfl rfl (ch_isSh hk) rfl (cc_isMissing hk) (by decide) (fun v h1 q => ?_)
  obtain ⟨rfl, rfl⟩ := q
  refine px_PW.steps kt_77.2 1 rfl ?_
  refine px_PW.br (fun c0 => ?_) (fun c0 => ?_)
  · have c0 : (Z (2 + k)) = 0 := px_b1n (of_decide_eq_false (px_nt c0))
    refine px_PW.steps kt_77.2 2 rfl ?_
    refine px_PW.callV kt_77.2 rfl rfl rfl rfl (cc_error hw.2.2.1 2 (by decide)) (by decide) (fun v h1 q => ?_)
    obtain ⟨rfl, rfl⟩ := q
    refine px_PW.ret kt_77.2 rfl rfl ?_
    have E : s_move Z N F k i k2 j n = ((-1000000000 - 2), Z, N, F) := if_pos c0
    rw [E]
    exact ⟨rfl, _, _, _, px_sc.err, rfl⟩
  · have c0 : ¬ ((Z (2 + k)) = 0) := px_b1z (of_decide_eq_true (px_nf c0))
    refine px_PW.steps kt_77.2 1 rfl ?_
    refine px_PW.callV kt_77.2 rfl rfl (ch_isSh hk2) rfl (cc_isMissing hk2) (by decide) (fun v h1 q => ?_)
    obtain ⟨rfl, rfl⟩ := q
    refine px_PW.steps kt_77.2 1 rfl ?_
    refine px_PW.br (fun c1 => ?_) (fun c1 => ?_)
    · have c1 : ¬ ((Z (2 + k2)) = 0) := px_b1z (of_decide_eq_true c1)
      refine px_PW.steps kt_77.2 1 rfl ?_
      refine px_PW.getf kt_77.2 rfl (ch_sh hk) rfl ?_
      refine px_PW.steps kt_77.2 1 rfl ?_
      refine px_PW.getf kt_77.2 rfl (ch_sh hk2) rfl ?_
      refine px_PW.steps kt_77.2 1 rfl ?_
      refine px_PW.br (fun c2 => ?_) (fun c2 => ?_)
      · have c2 : (Z (2 + k)) = (Z (2 + k2)) := of_decide_eq_true c2
        refine px_PW.steps kt_77.2 1 rfl ?_
        refine px_PW.getf kt_77.2 rfl (ch_sh hk) rfl ?_
        refine px_PW.steps kt_77.2 2 rfl ?_
        refine px_PW.callV kt_77.2 rfl rfl (ch_isO (by omega)) rfl (nb_stretches (q := 19 + k) (by omega) _ _) (by decide) (fun v h1 q => ?_)
        obtain ⟨rfl, rfl⟩ := q
        refine px_PW.steps kt_77.2 1 rfl ?_
        refine px_PW.br (fun c3 => ?_) (fun c3 => ?_)
        · have c3 : i < 0 ∨ n < 0 ∨ (N (19 + k)) < n ∨ (N (19 + k)) - n < i := px_b0z (of_decide_eq_true c3)
          refine px_PW.steps kt_77.2 2 rfl ?_
          refine px_PW.callV kt_77.2 rfl rfl rfl rfl (cc_error hw.2.2.1 1 (by decide)) (by decide) (fun v h1 q => ?_)
          obtain ⟨rfl, rfl⟩ := q
          refine px_PW.ret kt_77.2 rfl rfl ?_
          have E : s_move Z N F k i k2 j n = ((-1000000000 - 1), Z, N, F) := (if_neg c0).trans ((if_neg c1).trans ((if_pos c2).trans (if_pos c3)))
          rw [E]
          exact ⟨rfl, _, _, _, px_sc.err, rfl⟩
        · have c3 : ¬ (i < 0 ∨ n < 0 ∨ (N (19 + k)) < n ∨ (N (19 + k)) - n < i) := px_b0n (of_decide_eq_false c3)
          refine px_PW.steps kt_77.2 1 rfl ?_
          refine px_PW.getf kt_77.2 rfl (ch_sh hk2) rfl ?_
          refine px_PW.steps kt_77.2 2 rfl ?_
          refine px_PW.callV kt_77.2 rfl rfl (ch_isO (by omega)) rfl (nb_stretches (q := 19 + k2) (by omega) _ _) (by decide) (fun v h1 q => ?_)
          obtain ⟨rfl, rfl⟩ := q
          refine px_PW.steps kt_77.2 1 rfl ?_
          refine px_PW.br (fun c4 => ?_) (fun c4 => ?_)
          · have c4 : ¬ (j < 0 ∨ n < 0 ∨ (N (19 + k2)) < n ∨ (N (19 + k2)) - n < j) := px_b0n (of_decide_eq_false (px_nt c4))
            refine px_PW.steps kt_77.2 1 rfl ?_
            refine px_PW.getf kt_77.2 rfl (ch_sh hk2) rfl ?_
            refine px_PW.steps kt_77.2 1 rfl ?_
            refine px_PW.getf kt_77.2 rfl (ch_sh hk) rfl ?_
            refine px_PW.steps kt_77.2 3 rfl ?_
            refine px_PW.callV kt_77.2 rfl rfl (ch_isO (by omega)) rfl (nb_takeS (q := (19 + k2)) (p := (19 + k)) (by omega) (by omega) (hw.lim (by omega)) (hw.lim (by omega)) c3 c4) (by decide) (fun v h1 q => ?_)
            obtain ⟨rfl, rfl⟩ := q
            refine px_PW.steps kt_77.2 1 rfl ?_
            refine px_PW.ret kt_77.2 rfl rfl ?_
            have E : s_move Z N F k i k2 j n = (n, Z, N, (va_up F (19 + k2) (va_cpy (F (19 + k)) (F (19 + k2)) (i).toNatClampNeg (j).toNatClampNeg (n).toNatClampNeg))) := (if_neg c0).trans ((if_neg c1).trans ((if_pos c2).trans ((if_neg c3).trans (if_neg c4))))
            rw [E]
            exact ⟨rfl, _, _, _, px_sc.rf, rfl⟩
          · have c4 : j < 0 ∨ n < 0 ∨ (N (19 + k2)) < n ∨ (N (19 + k2)) - n < j := px_b0z (of_decide_eq_true (px_nf c4))
            refine px_PW.steps kt_77.2 2 rfl ?_
            refine px_PW.callV kt_77.2 rfl rfl rfl rfl (cc_error hw.2.2.1 1 (by decide)) (by decide) (fun v h1 q => ?_)
            obtain ⟨rfl, rfl⟩ := q
            refine px_PW.ret kt_77.2 rfl rfl ?_
            have E : s_move Z N F k i k2 j n = ((-1000000000 - 1), Z, N, F) := (if_neg c0).trans ((if_neg c1).trans ((if_pos c2).trans ((if_neg c3).trans (if_pos c4))))
            rw [E]
            exact ⟨rfl, _, _, _, px_sc.err, rfl⟩
      · have c2 : ¬ ((Z (2 + k)) = (Z (2 + k2))) := of_decide_eq_false c2
        refine px_PW.steps kt_77.2 2 rfl ?_
        refine px_PW.callV kt_77.2 rfl rfl rfl rfl (cc_error hw.2.2.1 5 (by decide)) (by decide) (fun v h1 q => ?_)
        obtain ⟨rfl, rfl⟩ := q
        refine px_PW.ret kt_77.2 rfl rfl ?_
        have E : s_move Z N F k i k2 j n = ((-1000000000 - 5), Z, N, F) := (if_neg c0).trans ((if_neg c1).trans (if_neg c2))
        rw [E]
        exact ⟨rfl, _, _, _, px_sc.err, rfl⟩
    · have c1 : (Z (2 + k2)) = 0 := px_b1n (of_decide_eq_false c1)
      refine px_PW.steps kt_77.2 2 rfl ?_
      refine px_PW.callV kt_77.2 rfl rfl rfl rfl (cc_error hw.2.2.1 2 (by decide)) (by decide) (fun v h1 q => ?_)
      obtain ⟨rfl, rfl⟩ := q
      refine px_PW.ret kt_77.2 rfl rfl ?_
      have E : s_move Z N F k i k2 j n = ((-1000000000 - 2), Z, N, F) := (if_neg c0).trans (if_pos c1)
      rw [E]
      exact ⟨rfl, _, _, _, px_sc.err, rfl⟩
def s_moveB1 (Z N : Nat → Int32) (F : Nat → Nat → Int32) (sheet : Int32) (i : Int32) (k2 : Nat) (j : Int32) (n : Int32) : Int32 × (Nat → Int32) × (Nat → Int32) × (Nat → Nat → Int32) := ((-1000000000 - 1), Z, N, F)
theorem kc_moveB1 {Z N : Nat → Int32} {F : Nat → Nat → Int32} (hw : px_cw N) (sheet : Int32) (i : Int32) (k2 : Nat) (j : Int32) (n : Int32) (hb : sheet < 0 ∨ 4 ≤ sheet) (hk2 : k2 < 4) : px_PM 3 77 [.ref 0, .int sheet, .int i, .int (nI k2), .int j, .int n] (px_CH Z N F, []) (fun r h' => r = some (.int (s_moveB1 Z N F sheet i k2 j n).1) ∧ ∃ Z' N' F', px_sc (s_moveB1 Z N F sheet i k2 j n).2.1 (s_moveB1 Z N F sheet i k2 j n).2.2.1 (s_moveB1 Z N F sheet i k2 j n).2.2.2 Z' N' F' ∧ h' = (px_CH Z' N' F', [])) := by
  refine px_PM.start (nL := 8) (code := pc_77) rfl rfl ?_
  refine px_PW.steps kt_77.2 2 rfl ?_
  refine px_PW.callV kt_77.2 rfl rfl rfl rfl (cc_sheetAtB _ hb) (by decide) (fun v h1 q => ?_)
  obtain ⟨rfl, rfl⟩ := q
  refine px_PW.steps kt_77.2 3 rfl ?_
  refine px_PW.callV kt_77.2 rfl rfl rfl rfl (cc_sheetAt k2 hk2) (by decide) (fun v h1 q => ?_)
  obtain ⟨rfl, rfl⟩ := q
  refine px_PW.steps kt_77.2 5 rfl ?_
  refine px_PW.callV kt_77.2 rfl rfl rfl rfl (cc_error hw.2.2.1 1 (by decide)) (by decide) (fun v h1 q => ?_)
  obtain ⟨rfl, rfl⟩ := q
  refine px_PW.ret kt_77.2 rfl rfl ?_
  have E : s_moveB1 Z N F sheet i k2 j n = ((-1000000000 - 1), Z, N, F) := rfl
  rw [E]
  exact ⟨rfl, _, _, _, px_sc.err, rfl⟩
def s_moveB2 (Z N : Nat → Int32) (F : Nat → Nat → Int32) (k : Nat) (i : Int32) (other : Int32) (j : Int32) (n : Int32) : Int32 × (Nat → Int32) × (Nat → Int32) × (Nat → Nat → Int32) := ((-1000000000 - 1), Z, N, F)
theorem kc_moveB2 {Z N : Nat → Int32} {F : Nat → Nat → Int32} (hw : px_cw N) (k : Nat) (i : Int32) (other : Int32) (j : Int32) (n : Int32) (hk : k < 4) (hb2 : other < 0 ∨ 4 ≤ other) : px_PM 3 77 [.ref 0, .int (nI k), .int i, .int other, .int j, .int n] (px_CH Z N F, []) (fun r h' => r = some (.int (s_moveB2 Z N F k i other j n).1) ∧ ∃ Z' N' F', px_sc (s_moveB2 Z N F k i other j n).2.1 (s_moveB2 Z N F k i other j n).2.2.1 (s_moveB2 Z N F k i other j n).2.2.2 Z' N' F' ∧ h' = (px_CH Z' N' F', [])) := by
  refine px_PM.start (nL := 8) (code := pc_77) rfl rfl ?_
  refine px_PW.steps kt_77.2 2 rfl ?_
  refine px_PW.callV kt_77.2 rfl rfl rfl rfl (cc_sheetAt k hk) (by decide) (fun v h1 q => ?_)
  obtain ⟨rfl, rfl⟩ := q
  refine px_PW.steps kt_77.2 3 rfl ?_
  refine px_PW.callV kt_77.2 rfl rfl rfl rfl (cc_sheetAtB _ hb2) (by decide) (fun v h1 q => ?_)
  obtain ⟨rfl, rfl⟩ := q
  refine px_PW.steps kt_77.2 7 rfl ?_
  refine px_PW.callV kt_77.2 rfl rfl rfl rfl (cc_error hw.2.2.1 1 (by decide)) (by decide) (fun v h1 q => ?_)
  obtain ⟨rfl, rfl⟩ := q
  refine px_PW.ret kt_77.2 rfl rfl ?_
  have E : s_moveB2 Z N F k i other j n = ((-1000000000 - 1), Z, N, F) := rfl
  rw [E]
  exact ⟨rfl, _, _, _, px_sc.err, rfl⟩
def s_moveB3 (Z N : Nat → Int32) (F : Nat → Nat → Int32) (sheet : Int32) (i : Int32) (other : Int32) (j : Int32) (n : Int32) : Int32 × (Nat → Int32) × (Nat → Int32) × (Nat → Nat → Int32) := ((-1000000000 - 1), Z, N, F)
theorem kc_moveB3 {Z N : Nat → Int32} {F : Nat → Nat → Int32} (hw : px_cw N) (sheet : Int32) (i : Int32) (other : Int32) (j : Int32) (n : Int32) (hb : sheet < 0 ∨ 4 ≤ sheet) (hb2 : other < 0 ∨ 4 ≤ other) : px_PM 3 77 [.ref 0, .int sheet, .int i, .int other, .int j, .int n] (px_CH Z N F, []) (fun r h' => r = some (.int (s_moveB3 Z N F sheet i other j n).1) ∧ ∃ Z' N' F', px_sc (s_moveB3 Z N F sheet i other j n).2.1 (s_moveB3 Z N F sheet i other j n).2.2.1 (s_moveB3 Z N F sheet i other j n).2.2.2 Z' N' F' ∧ h' = (px_CH Z' N' F', [])) := by
  refine px_PM.start (nL := 8) (code := pc_77) rfl rfl ?_
  refine px_PW.steps kt_77.2 2 rfl ?_
  refine px_PW.callV kt_77.2 rfl rfl rfl rfl (cc_sheetAtB _ hb) (by decide) (fun v h1 q => ?_)
  obtain ⟨rfl, rfl⟩ := q
  refine px_PW.steps kt_77.2 3 rfl ?_
  refine px_PW.callV kt_77.2 rfl rfl rfl rfl (cc_sheetAtB _ hb2) (by decide) (fun v h1 q => ?_)
  obtain ⟨rfl, rfl⟩ := q
  refine px_PW.steps kt_77.2 5 rfl ?_
  refine px_PW.callV kt_77.2 rfl rfl rfl rfl (cc_error hw.2.2.1 1 (by decide)) (by decide) (fun v h1 q => ?_)
  obtain ⟨rfl, rfl⟩ := q
  refine px_PW.ret kt_77.2 rfl rfl ?_
  have E : s_moveB3 Z N F sheet i other j n = ((-1000000000 - 1), Z, N, F) := rfl
  rw [E]
  exact ⟨rfl, _, _, _, px_sc.err, rfl⟩
end
/-! part 29.mmore -/
section
theorem m_keep_loop {Z : Nat → Int32} {F : Nat → Nat → Int32} {Q : Option Value → px_H → Prop} : ∀ (m k : Nat), k + m = 370 → (px_PW 0 pc_119 Q 21 [some (.ref 1001), some (.ref 1002), some (.int (nI 370))] [] ([], px_MH Z (va_up F 1 (zz_pl (F 0) (F 1) 0 370)))) → px_PW 0 pc_119 Q 2 [some (.ref 1001), some (.ref 1002), some (.int (nI k))] [] ([], px_MH Z (va_up F 1 (zz_pl (F 0) (F 1) 0 k)))
  | m, k, hk, H => by
    refine px_PW.steps kt_119.2 3 rfl ?_
    refine px_PW.br (fun c0 => ?_) (fun c0 => ?_)
    · have c0 : 370 ≤ (nI k) := of_decide_eq_true c0
      have c0 : 370 ≤ k := by exact (nI_leI (a := 370) (b := k) (by omega) (by omega)).mp c0
      obtain rfl : m = 0 := by omega
      obtain rfl : k = 370 := by omega
      exact H
    · have c0 : ¬ (370 ≤ (nI k)) := of_decide_eq_false c0
      have c0 : ¬ (370 ≤ k) := fun q => c0 (by exact (nI_leI (a := 370) (b := k) (by omega) (by omega)).mpr q)
      obtain ⟨m2, rfl⟩ : ∃ m2, m = m2 + 1 := ⟨m - 1, by omega⟩
      refine px_PW.steps kt_119.2 4 rfl ?_
      refine px_PW.aldN kt_119.2 rfl rfl (n := k) rfl (by omega) ?_
      refine ms_1 kt_119.2 rfl (n := k) rfl (by omega) ?_
      refine px_PW.steps kt_119.2 2 rfl ?_
      have g := m_keep_loop  (Q := Q) m2 (k + 1) (by omega) H
      have e2 : (va_up F 1 (zz_pl (F 0) (F 1) 0 ((k + 1)))) = (va_up (va_up F 1 (zz_pl (F 0) (F 1) 0 k)) 1 (upd (zz_pl (F 0) (F 1) 0 k) k ((F 0) k))) := by rw [px_up_up, zz_pl_s0]
      rw [e2, nI_succ] at g
      exact g
theorem mm_keep {Z : Nat → Int32} {F : Nat → Nat → Int32} : px_PM 1 119 [.ref 1001, .ref 1002] ([], px_MH Z F) (fun r h' => r = none ∧ h' = ([], px_MH Z (va_up F 1 (zz_pl (F 0) (F 1) 0 370)))) := by
  refine px_PM.start (nL := 3) (code := pc_119) rfl rfl ?_
  refine px_PW.steps kt_119.2 2 rfl ?_
  refine px_PW.hp (show _ = ([], px_MH Z (va_up F 1 (zz_pl (F 0) (F 1) 0 0))) by rw [zz_pl_0, px_up_id]) ?_
  refine m_keep_loop 370 0 rfl ?_
  exact px_PW.ret kt_119.2 rfl rfl ⟨rfl, rfl⟩
theorem m_take_loop {Z : Nat → Int32} {F : Nat → Nat → Int32} {Q : Option Value → px_H → Prop} : ∀ (m k : Nat), k + m = 370 → (px_PW 0 pc_119 Q 21 [some (.ref 1002), some (.ref 1001), some (.int (nI 370))] [] ([], px_MH Z (va_up F 0 (zz_pl (F 1) (F 0) 0 370)))) → px_PW 0 pc_119 Q 2 [some (.ref 1002), some (.ref 1001), some (.int (nI k))] [] ([], px_MH Z (va_up F 0 (zz_pl (F 1) (F 0) 0 k)))
  | m, k, hk, H => by
    refine px_PW.steps kt_119.2 3 rfl ?_
    refine px_PW.br (fun c0 => ?_) (fun c0 => ?_)
    · have c0 : 370 ≤ (nI k) := of_decide_eq_true c0
      have c0 : 370 ≤ k := by exact (nI_leI (a := 370) (b := k) (by omega) (by omega)).mp c0
      obtain rfl : m = 0 := by omega
      obtain rfl : k = 370 := by omega
      exact H
    · have c0 : ¬ (370 ≤ (nI k)) := of_decide_eq_false c0
      have c0 : ¬ (370 ≤ k) := fun q => c0 (by exact (nI_leI (a := 370) (b := k) (by omega) (by omega)).mpr q)
      obtain ⟨m2, rfl⟩ : ∃ m2, m = m2 + 1 := ⟨m - 1, by omega⟩
      refine px_PW.steps kt_119.2 4 rfl ?_
      refine px_PW.aldN kt_119.2 rfl rfl (n := k) rfl (by omega) ?_
      refine ms_0 kt_119.2 rfl (n := k) rfl (by omega) ?_
      refine px_PW.steps kt_119.2 2 rfl ?_
      have g := m_take_loop  (Q := Q) m2 (k + 1) (by omega) H
      have e2 : (va_up F 0 (zz_pl (F 1) (F 0) 0 ((k + 1)))) = (va_up (va_up F 0 (zz_pl (F 1) (F 0) 0 k)) 0 (upd (zz_pl (F 1) (F 0) 0 k) k ((F 1) k))) := by rw [px_up_up, zz_pl_s0]
      rw [e2, nI_succ] at g
      exact g
theorem mm_take {Z : Nat → Int32} {F : Nat → Nat → Int32} : px_PM 1 119 [.ref 1002, .ref 1001] ([], px_MH Z F) (fun r h' => r = none ∧ h' = ([], px_MH Z (va_up F 0 (zz_pl (F 1) (F 0) 0 370)))) := by
  refine px_PM.start (nL := 3) (code := pc_119) rfl rfl ?_
  refine px_PW.steps kt_119.2 2 rfl ?_
  refine px_PW.hp (show _ = ([], px_MH Z (va_up F 0 (zz_pl (F 1) (F 0) 0 0))) by rw [zz_pl_0, px_up_id]) ?_
  refine m_take_loop 370 0 rfl ?_
  exact px_PW.ret kt_119.2 rfl rfl ⟨rfl, rfl⟩
def s_mimage (Z : Nat → Int32) (F : Nat → Nat → Int32)  : Int32 × (Nat → Int32) × (Nat → Nat → Int32) := (((Z 0) + 1), (upd Z 0 ((Z 0) + 1)), (va_up F 1 (zz_pl (F 0) (F 1) 0 370)))
theorem kc_mimage {Z : Nat → Int32} {F : Nat → Nat → Int32}   : px_PM 2 201 [.ref 1000] ([], px_MH Z F) (fun r h' => r = some (.int (s_mimage Z F).1) ∧ ∃ Z' F', px_sm (s_mimage Z F).2.1 (s_mimage Z F).2.2 Z' F' ∧ h' = ([], px_MH Z' F')) := by
  refine px_PM.start (nL := 1) (code := pc_201) rfl rfl ?_
  refine px_PW.steps kt_201.2 4 rfl ?_
  refine px_PW.callS kt_201.2 rfl rfl rfl (mm_keep) (by decide) (fun v h1 q => ?_)
  obtain ⟨rfl, rfl⟩ := q
  refine px_PW.steps kt_201.2 5 rfl ?_
  refine mo_0 kt_201.2 rfl ?_
  refine px_PW.steps kt_201.2 2 rfl ?_
  refine px_PW.ret kt_201.2 rfl rfl ?_
  have E : s_mimage Z F = (((Z 0) + 1), (upd Z 0 ((Z 0) + 1)), (va_up F 1 (zz_pl (F 0) (F 1) 0 370))) := rfl
  rw [E]
  exact ⟨rfl, _, _, px_sm.rf, rfl⟩
def s_mrestore (Z : Nat → Int32) (F : Nat → Nat → Int32)  : Int32 × (Nat → Int32) × (Nat → Nat → Int32) := (if (Z 0) = 0 then ((-1000000000 - 2), Z, F) else (((zz_pl (F 1) (F 0) 0 370) 6), Z, (va_up F 0 (zz_pl (F 1) (F 0) 0 370))))
theorem kc_mrestore {Z : Nat → Int32} {F : Nat → Nat → Int32}   : px_PM 2 202 [.ref 1000] ([], px_MH Z F) (fun r h' => r = some (.int (s_mrestore Z F).1) ∧ ∃ Z' F', px_sm (s_mrestore Z F).2.1 (s_mrestore Z F).2.2 Z' F' ∧ h' = ([], px_MH Z' F')) := by
  refine px_PM.start (nL := 1) (code := pc_202) rfl rfl ?_
  refine px_PW.steps kt_202.2 3 rfl ?_
  refine px_PW.br (fun c0 => ?_) (fun c0 => ?_)
  · have c0 : ¬ ((Z 0) = 0) := of_decide_eq_false (px_nt c0)
    refine px_PW.steps kt_202.2 4 rfl ?_
    refine px_PW.callS kt_202.2 rfl rfl rfl (mm_take) (by decide) (fun v h1 q => ?_)
    obtain ⟨rfl, rfl⟩ := q
    refine px_PW.steps kt_202.2 3 rfl ?_
    refine px_PW.steps kt_202.2 1 rfl ?_
    refine px_PW.ret kt_202.2 rfl rfl ?_
    have E : s_mrestore Z F = (((zz_pl (F 1) (F 0) 0 370) 6), Z, (va_up F 0 (zz_pl (F 1) (F 0) 0 370))) := if_neg c0
    rw [E]
    exact ⟨rfl, _, _, px_sm.rf, rfl⟩
  · have c0 : (Z 0) = 0 := of_decide_eq_true (px_nf c0)
    refine px_PW.steps kt_202.2 2 rfl ?_
    refine px_PW.callV kt_202.2 rfl rfl rfl rfl (mm_error 2 (by decide)) (by decide) (fun v h1 q => ?_)
    obtain ⟨rfl, rfl⟩ := q
    refine px_PW.ret kt_202.2 rfl rfl ?_
    have E : s_mrestore Z F = ((-1000000000 - 2), Z, F) := if_pos c0
    rw [E]
    exact ⟨rfl, _, _, px_sm.err, rfl⟩
theorem mm_hasText0 {Z : Nat → Int32} {F : Nat → Nat → Int32}   : px_PM 1 136 [.ref 1000, .int 0] ([], px_MH Z F) (fun r h' => r = some (.int (if 0 < F 0 36 then 1 else 0)) ∧ h' = ([], px_MH Z F)) := by
  refine px_PM.start (nL := 2) (code := pc_136) rfl rfl ?_
  refine px_PW.steps kt_136.2 7 rfl ?_
  refine px_PW.aldN kt_136.2 rfl rfl (n := 36) rfl (by decide) ?_
  refine px_PW.steps kt_136.2 1 rfl ?_
  refine px_PW.br (fun c0 => ?_) (fun c0 => ?_)
  · have c0 : ((F 0) 36) ≤ 0 := of_decide_eq_true c0
    refine px_PW.steps kt_136.2 1 rfl ?_
    refine px_PW.ret kt_136.2 rfl rfl ?_
    exact ⟨by simp [*], rfl⟩
  · have c0 : ¬ (((F 0) 36) ≤ 0) := of_decide_eq_false c0
    refine px_PW.steps kt_136.2 2 rfl ?_
    refine px_PW.ret kt_136.2 rfl rfl ?_
    exact ⟨by simp [*], rfl⟩
theorem mm_hasText1 {Z : Nat → Int32} {F : Nat → Nat → Int32}   : px_PM 1 136 [.ref 1000, .int 1] ([], px_MH Z F) (fun r h' => r = some (.int (if 0 < F 0 161 then 1 else 0)) ∧ h' = ([], px_MH Z F)) := by
  refine px_PM.start (nL := 2) (code := pc_136) rfl rfl ?_
  refine px_PW.steps kt_136.2 7 rfl ?_
  refine px_PW.aldN kt_136.2 rfl rfl (n := 161) rfl (by decide) ?_
  refine px_PW.steps kt_136.2 1 rfl ?_
  refine px_PW.br (fun c0 => ?_) (fun c0 => ?_)
  · have c0 : ((F 0) 161) ≤ 0 := of_decide_eq_true c0
    refine px_PW.steps kt_136.2 1 rfl ?_
    refine px_PW.ret kt_136.2 rfl rfl ?_
    exact ⟨by simp [*], rfl⟩
  · have c0 : ¬ (((F 0) 161) ≤ 0) := of_decide_eq_false c0
    refine px_PW.steps kt_136.2 2 rfl ?_
    refine px_PW.ret kt_136.2 rfl rfl ?_
    exact ⟨by simp [*], rfl⟩
theorem px_no01 {u : Int32} (h : ¬ (u = 0 ∨ u = 1)) : ¬ (0 ≤ u ∧ u ≤ 1) := fun c => by
  obtain ⟨n, hn, rfl⟩ := nI_of (Int32.not_lt.mpr c.1)
  have c2 := c.2
  rw [show (1 : Int32) = nI 1 from rfl, nI_leI (by omega) (by omega)] at c2
  rcases (show n = 0 ∨ n = 1 by omega) with rfl | rfl
  · exact h (Or.inl rfl)
  · exact h (Or.inr rfl)
def s_muntell0 (Z : Nat → Int32) (F : Nat → Nat → Int32)  : Int32 × (Nat → Int32) × (Nat → Nat → Int32) := (if 0 < ((F 0) 36) then (1, Z, (va_up F 0 (upd (F 0) 36 0))) else (0, Z, (va_up F 0 (upd (F 0) 36 0))))
theorem kc_muntell0 {Z : Nat → Int32} {F : Nat → Nat → Int32}   : px_PM 2 138 [.ref 1000, .int 0] ([], px_MH Z F) (fun r h' => r = some (.int (s_muntell0 Z F).1) ∧ ∃ Z' F', px_sm (s_muntell0 Z F).2.1 (s_muntell0 Z F).2.2 Z' F' ∧ h' = ([], px_MH Z' F')) := by
  refine px_PM.start (nL := 3) (code := pc_138) rfl rfl ?_
  refine px_PW.steps kt_138.2 3 rfl ?_
  refine px_PW.callS kt_138.2 rfl rfl rfl (cm_117 _ _ _ _) (by decide) (fun v h1 q => ?_)
  obtain ⟨rfl, rfl⟩ := q
  refine px_PW.steps kt_138.2 1 rfl ?_
  refine px_PW.br (fun c0 => ?_) (fun c0 => ?_)
  · have c0 : 0 ≤ 0 ∧ 0 ≤ 1 := px_b1n (of_decide_eq_false (px_nt c0))
    refine px_PW.steps kt_138.2 2 rfl ?_
    refine px_PW.callV kt_138.2 rfl rfl rfl rfl (mm_hasText0) (by decide) (fun v h1 q => ?_)
    obtain ⟨rfl, rfl⟩ := q
    refine px_PW.steps kt_138.2 1 rfl ?_
    refine px_PW.br (fun c1 => ?_) (fun c1 => ?_)
    · have c1 : ¬ (0 < ((F 0) 36)) := px_b1z (of_decide_eq_true c1)
      refine px_PW.steps kt_138.2 10 rfl ?_
      refine ms_0 kt_138.2 rfl (n := 36) rfl (by decide) ?_
      refine px_PW.steps kt_138.2 1 rfl ?_
      refine px_PW.ret kt_138.2 rfl rfl ?_
      have E : s_muntell0 Z F = (0, Z, (va_up F 0 (upd (F 0) 36 0))) := if_neg c1
      rw [E]
      exact ⟨rfl, _, _, px_sm.rf, rfl⟩
    · have c1 : 0 < ((F 0) 36) := px_b1n (of_decide_eq_false c1)
      refine px_PW.steps kt_138.2 11 rfl ?_
      refine ms_0 kt_138.2 rfl (n := 36) rfl (by decide) ?_
      refine px_PW.steps kt_138.2 1 rfl ?_
      refine px_PW.ret kt_138.2 rfl rfl ?_
      have E : s_muntell0 Z F = (1, Z, (va_up F 0 (upd (F 0) 36 0))) := if_pos c1
      rw [E]
      exact ⟨rfl, _, _, px_sm.rf, rfl⟩
  · have c0 : ¬ (0 ≤ 0 ∧ 0 ≤ 1) := px_b1z (of_decide_eq_true (px_nf c0))
    exact absurd (by decide) c0
def s_muntell1 (Z : Nat → Int32) (F : Nat → Nat → Int32)  : Int32 × (Nat → Int32) × (Nat → Nat → Int32) := (if 0 < ((F 0) 161) then (1, Z, (va_up F 0 (upd (F 0) 161 0))) else (0, Z, (va_up F 0 (upd (F 0) 161 0))))
theorem kc_muntell1 {Z : Nat → Int32} {F : Nat → Nat → Int32}   : px_PM 2 138 [.ref 1000, .int 1] ([], px_MH Z F) (fun r h' => r = some (.int (s_muntell1 Z F).1) ∧ ∃ Z' F', px_sm (s_muntell1 Z F).2.1 (s_muntell1 Z F).2.2 Z' F' ∧ h' = ([], px_MH Z' F')) := by
  refine px_PM.start (nL := 3) (code := pc_138) rfl rfl ?_
  refine px_PW.steps kt_138.2 3 rfl ?_
  refine px_PW.callS kt_138.2 rfl rfl rfl (cm_117 _ _ _ _) (by decide) (fun v h1 q => ?_)
  obtain ⟨rfl, rfl⟩ := q
  refine px_PW.steps kt_138.2 1 rfl ?_
  refine px_PW.br (fun c0 => ?_) (fun c0 => ?_)
  · have c0 : 0 ≤ 1 ∧ 1 ≤ 1 := px_b1n (of_decide_eq_false (px_nt c0))
    refine px_PW.steps kt_138.2 2 rfl ?_
    refine px_PW.callV kt_138.2 rfl rfl rfl rfl (mm_hasText1) (by decide) (fun v h1 q => ?_)
    obtain ⟨rfl, rfl⟩ := q
    refine px_PW.steps kt_138.2 1 rfl ?_
    refine px_PW.br (fun c1 => ?_) (fun c1 => ?_)
    · have c1 : ¬ (0 < ((F 0) 161)) := px_b1z (of_decide_eq_true c1)
      refine px_PW.steps kt_138.2 10 rfl ?_
      refine ms_0 kt_138.2 rfl (n := 161) rfl (by decide) ?_
      refine px_PW.steps kt_138.2 1 rfl ?_
      refine px_PW.ret kt_138.2 rfl rfl ?_
      have E : s_muntell1 Z F = (0, Z, (va_up F 0 (upd (F 0) 161 0))) := if_neg c1
      rw [E]
      exact ⟨rfl, _, _, px_sm.rf, rfl⟩
    · have c1 : 0 < ((F 0) 161) := px_b1n (of_decide_eq_false c1)
      refine px_PW.steps kt_138.2 11 rfl ?_
      refine ms_0 kt_138.2 rfl (n := 161) rfl (by decide) ?_
      refine px_PW.steps kt_138.2 1 rfl ?_
      refine px_PW.ret kt_138.2 rfl rfl ?_
      have E : s_muntell1 Z F = (1, Z, (va_up F 0 (upd (F 0) 161 0))) := if_pos c1
      rw [E]
      exact ⟨rfl, _, _, px_sm.rf, rfl⟩
  · have c0 : ¬ (0 ≤ 1 ∧ 1 ≤ 1) := px_b1z (of_decide_eq_true (px_nf c0))
    exact absurd (by decide) c0
def s_muntellB (Z : Nat → Int32) (F : Nat → Nat → Int32) (use : Int32) : Int32 × (Nat → Int32) × (Nat → Nat → Int32) := ((-1000000000 - 1), Z, F)
theorem kc_muntellB {Z : Nat → Int32} {F : Nat → Nat → Int32}  (use : Int32) (hu : ¬ (use = 0 ∨ use = 1)) : px_PM 2 138 [.ref 1000, .int use] ([], px_MH Z F) (fun r h' => r = some (.int (s_muntellB Z F use).1) ∧ ∃ Z' F', px_sm (s_muntellB Z F use).2.1 (s_muntellB Z F use).2.2 Z' F' ∧ h' = ([], px_MH Z' F')) := by
  refine px_PM.start (nL := 3) (code := pc_138) rfl rfl ?_
  refine px_PW.steps kt_138.2 3 rfl ?_
  refine px_PW.callS kt_138.2 rfl rfl rfl (cm_117 _ _ _ _) (by decide) (fun v h1 q => ?_)
  obtain ⟨rfl, rfl⟩ := q
  refine px_PW.steps kt_138.2 1 rfl ?_
  refine px_PW.br (fun c0 => ?_) (fun c0 => ?_)
  · have c0 : 0 ≤ use ∧ use ≤ 1 := px_b1n (of_decide_eq_false (px_nt c0))
    exact absurd c0 (px_no01 hu)
  · have c0 : ¬ (0 ≤ use ∧ use ≤ 1) := px_b1z (of_decide_eq_true (px_nf c0))
    refine px_PW.steps kt_138.2 2 rfl ?_
    refine px_PW.callV kt_138.2 rfl rfl rfl rfl (mm_error 1 (by decide)) (by decide) (fun v h1 q => ?_)
    obtain ⟨rfl, rfl⟩ := q
    refine px_PW.ret kt_138.2 rfl rfl ?_
    have E : s_muntellB Z F use = ((-1000000000 - 1), Z, F) := rfl
    rw [E]
    exact ⟨rfl, _, _, px_sm.err, rfl⟩
theorem px_nm {x : Int32} {M : Nat} (hM : x = nI M) (hM6 : M ≤ 6) : x = nI x.toNatClampNeg ∧ x.toNatClampNeg ≤ 6 := by
  subst hM
  rw [nI_clamp (by omega)]
  exact ⟨rfl, hM6⟩
theorem px_nm6 {x : Int32} {M : Nat} (hM : x = nI M) (hM6 : M ≤ 6) (c : ¬ (x = 6)) : x.toNatClampNeg < 6 := by
  have h := px_nm hM hM6
  rcases (show x.toNatClampNeg < 6 ∨ x.toNatClampNeg = 6 by omega) with q | q
  · exact q
  · have e := h.1
    rw [q] at e
    exact absurd e c
def s_mthing (Z : Nat → Int32) (F : Nat → Nat → Int32) (km : Int32) (from_ : Int32) (width : Int32) : Int32 × (Nat → Int32) × (Nat → Nat → Int32) := (if 0 ≤ km ∧ km ≤ 69 then (if 0 ≤ from_ ∧ from_ ≤ 4000 then (if 1 ≤ width ∧ width ≤ 999 then (if ((F 0) 10) = 6 then ((-1000000000 - 4), Z, F) else (((F 0) 10), Z, (va_up (va_up (va_up (va_up (va_up F 0 (upd (F 0) (12 + 4 * (F 0 10).toNatClampNeg + 0) (km / 10))) 0 (upd (upd (F 0) (12 + 4 * (F 0 10).toNatClampNeg + 0) (km / 10)) (12 + 4 * (F 0 10).toNatClampNeg + 1) (km - km / 10 * 10))) 0 (upd (upd (upd (F 0) (12 + 4 * (F 0 10).toNatClampNeg + 0) (km / 10)) (12 + 4 * (F 0 10).toNatClampNeg + 1) (km - km / 10 * 10)) (12 + 4 * (F 0 10).toNatClampNeg + 2) from_)) 0 (upd (upd (upd (upd (F 0) (12 + 4 * (F 0 10).toNatClampNeg + 0) (km / 10)) (12 + 4 * (F 0 10).toNatClampNeg + 1) (km - km / 10 * 10)) (12 + 4 * (F 0 10).toNatClampNeg + 2) from_) (12 + 4 * (F 0 10).toNatClampNeg + 3) width)) 0 (upd (upd (upd (upd (upd (F 0) (12 + 4 * (F 0 10).toNatClampNeg + 0) (km / 10)) (12 + 4 * (F 0 10).toNatClampNeg + 1) (km - km / 10 * 10)) (12 + 4 * (F 0 10).toNatClampNeg + 2) from_) (12 + 4 * (F 0 10).toNatClampNeg + 3) width) 10 (((upd (upd (upd (upd (F 0) (12 + 4 * (F 0 10).toNatClampNeg + 0) (km / 10)) (12 + 4 * (F 0 10).toNatClampNeg + 1) (km - km / 10 * 10)) (12 + 4 * (F 0 10).toNatClampNeg + 2) from_) (12 + 4 * (F 0 10).toNatClampNeg + 3) width) 10) + 1))))) else ((-1000000000 - 1), Z, F)) else ((-1000000000 - 1), Z, F)) else ((-1000000000 - 1), Z, F))
theorem kc_mthing {Z : Nat → Int32} {F : Nat → Nat → Int32} {M : Nat} (hM : F 0 10 = nI M) (hM6 : M ≤ 6) (km : Int32) (from_ : Int32) (width : Int32) : px_PM 3 162 [.ref 1000, .int km, .int from_, .int width] ([], px_MH Z F) (fun r h' => r = some (.int (s_mthing Z F km from_ width).1) ∧ ∃ Z' F', px_sm (s_mthing Z F km from_ width).2.1 (s_mthing Z F km from_ width).2.2 Z' F' ∧ h' = ([], px_MH Z' F')) := by
  refine px_PM.start (nL := 5) (code := pc_162) rfl rfl ?_
  refine px_PW.steps kt_162.2 1 rfl ?_
  refine px_PW.callS kt_162.2 rfl rfl rfl (mm_isKind _ _) (by decide) (fun v h1 q => ?_)
  obtain ⟨rfl, rfl⟩ := q
  refine px_PW.steps kt_162.2 1 rfl ?_
  refine px_PW.br (fun c0 => ?_) (fun c0 => ?_)
  · have c0 : ¬ (0 ≤ km ∧ km ≤ 69) := px_b1z (of_decide_eq_true c0)
    refine px_PW.steps kt_162.2 2 rfl ?_
    refine px_PW.callV kt_162.2 rfl rfl rfl rfl (mm_error 1 (by decide)) (by decide) (fun v h1 q => ?_)
    obtain ⟨rfl, rfl⟩ := q
    refine px_PW.ret kt_162.2 rfl rfl ?_
    have E : s_mthing Z F km from_ width = ((-1000000000 - 1), Z, F) := if_neg c0
    rw [E]
    exact ⟨rfl, _, _, px_sm.err, rfl⟩
  · have c0 : 0 ≤ km ∧ km ≤ 69 := px_b1n (of_decide_eq_false c0)
    refine px_PW.steps kt_162.2 3 rfl ?_
    refine px_PW.callS kt_162.2 rfl rfl rfl (cm_117 _ _ _ _) (by decide) (fun v h1 q => ?_)
    obtain ⟨rfl, rfl⟩ := q
    refine px_PW.steps kt_162.2 1 rfl ?_
    refine px_PW.br (fun c1 => ?_) (fun c1 => ?_)
    · have c1 : ¬ (0 ≤ from_ ∧ from_ ≤ 4000) := px_b1z (of_decide_eq_true c1)
      refine px_PW.steps kt_162.2 2 rfl ?_
      refine px_PW.callV kt_162.2 rfl rfl rfl rfl (mm_error 1 (by decide)) (by decide) (fun v h1 q => ?_)
      obtain ⟨rfl, rfl⟩ := q
      refine px_PW.ret kt_162.2 rfl rfl ?_
      have E : s_mthing Z F km from_ width = ((-1000000000 - 1), Z, F) := (if_pos c0).trans (if_neg c1)
      rw [E]
      exact ⟨rfl, _, _, px_sm.err, rfl⟩
    · have c1 : 0 ≤ from_ ∧ from_ ≤ 4000 := px_b1n (of_decide_eq_false c1)
      refine px_PW.steps kt_162.2 3 rfl ?_
      refine px_PW.callS kt_162.2 rfl rfl rfl (cm_117 _ _ _ _) (by decide) (fun v h1 q => ?_)
      obtain ⟨rfl, rfl⟩ := q
      refine px_PW.steps kt_162.2 1 rfl ?_
      refine px_PW.br (fun c2 => ?_) (fun c2 => ?_)
      · have c2 : 1 ≤ width ∧ width ≤ 999 := px_b1n (of_decide_eq_false (px_nt c2))
        refine px_PW.steps kt_162.2 3 rfl ?_
        refine px_PW.steps kt_162.2 1 rfl ?_
        refine px_PW.steps kt_162.2 2 rfl ?_
        refine px_PW.br (fun c3 => ?_) (fun c3 => ?_)
        · have c3 : ¬ (((F 0) 10) = 6) := of_decide_eq_false (px_nt c3)
          refine px_PW.steps kt_162.2 3 rfl ?_
          refine px_PW.steps kt_162.2 1 rfl ?_
          refine px_PW.steps kt_162.2 7 rfl ?_
          refine px_PW.callV kt_162.2 rfl rfl rfl rfl (mm_lays1 (n := (F 0 10).toNatClampNeg) (k := 0) (px_nm hM hM6).1 rfl (px_nm6 hM hM6 c3) (by omega) _) (by decide) (fun v h1 q => ?_)
          obtain ⟨rfl, rfl⟩ := q
          refine px_PW.steps kt_162.2 6 rfl ?_
          refine px_PW.callV kt_162.2 rfl rfl rfl rfl (mm_lays1 (n := (F 0 10).toNatClampNeg) (k := 1) (px_nm hM hM6).1 rfl (px_nm6 hM hM6 c3) (by omega) _) (by decide) (fun v h1 q => ?_)
          obtain ⟨rfl, rfl⟩ := q
          refine px_PW.steps kt_162.2 4 rfl ?_
          refine px_PW.callV kt_162.2 rfl rfl rfl rfl (mm_lays1 (n := (F 0 10).toNatClampNeg) (k := 2) (px_nm hM hM6).1 rfl (px_nm6 hM hM6 c3) (by omega) _) (by decide) (fun v h1 q => ?_)
          obtain ⟨rfl, rfl⟩ := q
          refine px_PW.steps kt_162.2 4 rfl ?_
          refine px_PW.callV kt_162.2 rfl rfl rfl rfl (mm_lays1 (n := (F 0 10).toNatClampNeg) (k := 3) (px_nm hM hM6).1 rfl (px_nm6 hM hM6 c3) (by omega) _) (by decide) (fun v h1 q => ?_)
          obtain ⟨rfl, rfl⟩ := q
          refine px_PW.steps kt_162.2 4 rfl ?_
          refine px_PW.steps kt_162.2 1 rfl ?_
          refine px_PW.steps kt_162.2 2 rfl ?_
          refine ms_0 kt_162.2 rfl (n := 10) rfl (by decide) ?_
          refine px_PW.steps kt_162.2 1 rfl ?_
          refine px_PW.ret kt_162.2 rfl rfl ?_
          have E : s_mthing Z F km from_ width = (((F 0) 10), Z, (va_up (va_up (va_up (va_up (va_up F 0 (upd (F 0) (12 + 4 * (F 0 10).toNatClampNeg + 0) (km / 10))) 0 (upd (upd (F 0) (12 + 4 * (F 0 10).toNatClampNeg + 0) (km / 10)) (12 + 4 * (F 0 10).toNatClampNeg + 1) (km - km / 10 * 10))) 0 (upd (upd (upd (F 0) (12 + 4 * (F 0 10).toNatClampNeg + 0) (km / 10)) (12 + 4 * (F 0 10).toNatClampNeg + 1) (km - km / 10 * 10)) (12 + 4 * (F 0 10).toNatClampNeg + 2) from_)) 0 (upd (upd (upd (upd (F 0) (12 + 4 * (F 0 10).toNatClampNeg + 0) (km / 10)) (12 + 4 * (F 0 10).toNatClampNeg + 1) (km - km / 10 * 10)) (12 + 4 * (F 0 10).toNatClampNeg + 2) from_) (12 + 4 * (F 0 10).toNatClampNeg + 3) width)) 0 (upd (upd (upd (upd (upd (F 0) (12 + 4 * (F 0 10).toNatClampNeg + 0) (km / 10)) (12 + 4 * (F 0 10).toNatClampNeg + 1) (km - km / 10 * 10)) (12 + 4 * (F 0 10).toNatClampNeg + 2) from_) (12 + 4 * (F 0 10).toNatClampNeg + 3) width) 10 (((upd (upd (upd (upd (F 0) (12 + 4 * (F 0 10).toNatClampNeg + 0) (km / 10)) (12 + 4 * (F 0 10).toNatClampNeg + 1) (km - km / 10 * 10)) (12 + 4 * (F 0 10).toNatClampNeg + 2) from_) (12 + 4 * (F 0 10).toNatClampNeg + 3) width) 10) + 1)))) := (if_pos c0).trans ((if_pos c1).trans ((if_pos c2).trans (if_neg c3)))
          rw [E]
          exact ⟨rfl, _, _, px_sm.rf, rfl⟩
        · have c3 : ((F 0) 10) = 6 := of_decide_eq_true (px_nf c3)
          refine px_PW.steps kt_162.2 2 rfl ?_
          refine px_PW.callV kt_162.2 rfl rfl rfl rfl (mm_error 4 (by decide)) (by decide) (fun v h1 q => ?_)
          obtain ⟨rfl, rfl⟩ := q
          refine px_PW.ret kt_162.2 rfl rfl ?_
          have E : s_mthing Z F km from_ width = ((-1000000000 - 4), Z, F) := (if_pos c0).trans ((if_pos c1).trans ((if_pos c2).trans (if_pos c3)))
          rw [E]
          exact ⟨rfl, _, _, px_sm.err, rfl⟩
      · have c2 : ¬ (1 ≤ width ∧ width ≤ 999) := px_b1z (of_decide_eq_true (px_nf c2))
        refine px_PW.steps kt_162.2 2 rfl ?_
        refine px_PW.callV kt_162.2 rfl rfl rfl rfl (mm_error 1 (by decide)) (by decide) (fun v h1 q => ?_)
        obtain ⟨rfl, rfl⟩ := q
        refine px_PW.ret kt_162.2 rfl rfl ?_
        have E : s_mthing Z F km from_ width = ((-1000000000 - 1), Z, F) := (if_pos c0).trans ((if_pos c1).trans (if_neg c2))
        rw [E]
        exact ⟨rfl, _, _, px_sm.err, rfl⟩
theorem px_w24 {x : Int32} {W : Nat} (hW : x = nI W) (hW24 : W ≤ 24) (c : ¬ (x = 24)) : 346 + x = nI (346 + x.toNatClampNeg) ∧ 346 + x.toNatClampNeg < 370 := by
  subst hW
  rw [nI_clamp (by omega)]
  rcases (show W < 24 ∨ W = 24 by omega) with q | q
  · exact ⟨nI_add 346 W, by omega⟩
  · subst q
    exact absurd rfl c
def s_mtell (Z : Nat → Int32) (F : Nat → Nat → Int32) (v : Int32) : Int32 × (Nat → Int32) × (Nat → Nat → Int32) := (if ((F 0) 9) = 24 then ((-1000000000 - 4), Z, F) else (((upd (upd (F 0) (346 + (F 0 9).toNatClampNeg) v) 9 (((upd (F 0) (346 + (F 0 9).toNatClampNeg) v) 9) + 1)) 9), Z, (va_up (va_up F 0 (upd (F 0) (346 + (F 0 9).toNatClampNeg) v)) 0 (upd (upd (F 0) (346 + (F 0 9).toNatClampNeg) v) 9 (((upd (F 0) (346 + (F 0 9).toNatClampNeg) v) 9) + 1)))))
theorem kc_mtell {Z : Nat → Int32} {F : Nat → Nat → Int32} {W : Nat} (hW : F 0 9 = nI W) (hW24 : W ≤ 24) (v : Int32) : px_PM 2 203 [.ref 1000, .int v] ([], px_MH Z F) (fun r h' => r = some (.int (s_mtell Z F v).1) ∧ ∃ Z' F', px_sm (s_mtell Z F v).2.1 (s_mtell Z F v).2.2 Z' F' ∧ h' = ([], px_MH Z' F')) := by
  refine px_PM.start (nL := 2) (code := pc_203) rfl rfl ?_
  refine px_PW.steps kt_203.2 3 rfl ?_
  refine px_PW.steps kt_203.2 1 rfl ?_
  refine px_PW.steps kt_203.2 2 rfl ?_
  refine px_PW.br (fun c0 => ?_) (fun c0 => ?_)
  · have c0 : ¬ (((F 0) 9) = 24) := of_decide_eq_false (px_nt c0)
    refine px_PW.steps kt_203.2 6 rfl ?_
    refine px_PW.steps kt_203.2 1 rfl ?_
    refine px_PW.steps kt_203.2 2 rfl ?_
    refine ms_0 kt_203.2 rfl (n := 346 + (F 0 9).toNatClampNeg) (px_w24 hW hW24 c0).1 (px_w24 hW hW24 c0).2 ?_
    refine px_PW.steps kt_203.2 4 rfl ?_
    refine px_PW.steps kt_203.2 1 rfl ?_
    refine px_PW.steps kt_203.2 2 rfl ?_
    refine ms_0 kt_203.2 rfl (n := 9) rfl (by decide) ?_
    refine px_PW.steps kt_203.2 3 rfl ?_
    refine px_PW.steps kt_203.2 1 rfl ?_
    refine px_PW.ret kt_203.2 rfl rfl ?_
    have E : s_mtell Z F v = (((upd (upd (F 0) (346 + (F 0 9).toNatClampNeg) v) 9 (((upd (F 0) (346 + (F 0 9).toNatClampNeg) v) 9) + 1)) 9), Z, (va_up (va_up F 0 (upd (F 0) (346 + (F 0 9).toNatClampNeg) v)) 0 (upd (upd (F 0) (346 + (F 0 9).toNatClampNeg) v) 9 (((upd (F 0) (346 + (F 0 9).toNatClampNeg) v) 9) + 1)))) := if_neg c0
    rw [E]
    exact ⟨rfl, _, _, px_sm.rf, rfl⟩
  · have c0 : ((F 0) 9) = 24 := of_decide_eq_true (px_nf c0)
    refine px_PW.steps kt_203.2 2 rfl ?_
    refine px_PW.callV kt_203.2 rfl rfl rfl rfl (mm_error 4 (by decide)) (by decide) (fun v h1 q => ?_)
    obtain ⟨rfl, rfl⟩ := q
    refine px_PW.ret kt_203.2 rfl rfl ?_
    have E : s_mtell Z F v = ((-1000000000 - 4), Z, F) := if_pos c0
    rw [E]
    exact ⟨rfl, _, _, px_sm.err, rfl⟩
theorem px_sh_ok {k : Nat} (hk : k < 4) : 0 ≤ nI k ∧ nI k ≤ 3 := ⟨nI_pos' (by omega), (nI_leI (b := 3) (by omega) (by omega)).mpr (by omega)⟩
theorem px_sh_no {i : Int32} (h : i < 0 ∨ 4 ≤ i) : ¬ (0 ≤ i ∧ i ≤ 3) := fun c => by
  rcases h with h | h
  · exact absurd h (Int32.not_lt.mpr c.1)
  · exact absurd (Int32.le_trans h c.2) (by decide)
def s_lacks (F : Nat → Nat → Int32) (k : Nat) : Int32 := if F 11 k = 0 then 2 else 0
theorem mm_lacks {Z : Nat → Int32} {F : Nat → Nat → Int32} {k : Nat} (hk : k < 4) : px_PM 3 198 [.ref 1000, .int (nI k)] ([], px_MH Z F) (fun r h' => r = some (.int (s_lacks F k)) ∧ h' = ([], px_MH Z F)) := by
  refine px_PM.start (nL := 2) (code := pc_198) rfl rfl ?_
  refine px_PW.steps kt_198.2 1 rfl ?_
  refine px_PW.callS kt_198.2 rfl rfl rfl (mm_isSheet _ _) (by decide) (fun v h1 q => ?_)
  obtain ⟨rfl, rfl⟩ := q
  refine px_PW.steps kt_198.2 1 rfl ?_
  refine px_PW.br (fun c0 => ?_) (fun c0 => ?_)
  · have c0 : 0 ≤ (nI k) ∧ (nI k) ≤ 3 := px_b1n (of_decide_eq_false (px_nt c0))
    refine px_PW.steps kt_198.2 3 rfl ?_
    refine px_PW.aldN kt_198.2 rfl rfl (n := k) rfl hk ?_
    refine px_PW.steps kt_198.2 1 rfl ?_
    refine px_PW.br (fun c1 => ?_) (fun c1 => ?_)
    · have c1 : ¬ (((F 11) k) = 0) := of_decide_eq_false (px_nt c1)
      refine px_PW.steps kt_198.2 1 rfl ?_
      refine px_PW.ret kt_198.2 rfl rfl ?_
      exact ⟨congrArg (fun z => some (Value.int z)) (show s_lacks F k = _ from if_neg c1).symm, rfl⟩
    · have c1 : ((F 11) k) = 0 := of_decide_eq_true (px_nf c1)
      refine px_PW.steps kt_198.2 2 rfl ?_
      refine px_PW.ret kt_198.2 rfl rfl ?_
      exact ⟨congrArg (fun z => some (Value.int z)) (show s_lacks F k = _ from if_pos c1).symm, rfl⟩
  · have c0 : ¬ (0 ≤ (nI k) ∧ (nI k) ≤ 3) := px_b1z (of_decide_eq_true (px_nf c0))
    exact absurd (px_sh_ok hk) c0
theorem mm_lacksB {Z : Nat → Int32} {F : Nat → Nat → Int32} {sheet : Int32} (hb : sheet < 0 ∨ 4 ≤ sheet) : px_PM 3 198 [.ref 1000, .int sheet] ([], px_MH Z F) (fun r h' => r = some (.int (1)) ∧ h' = ([], px_MH Z F)) := by
  refine px_PM.start (nL := 2) (code := pc_198) rfl rfl ?_
  refine px_PW.steps kt_198.2 1 rfl ?_
  refine px_PW.callS kt_198.2 rfl rfl rfl (mm_isSheet _ _) (by decide) (fun v h1 q => ?_)
  obtain ⟨rfl, rfl⟩ := q
  refine px_PW.steps kt_198.2 1 rfl ?_
  refine px_PW.br (fun c0 => ?_) (fun c0 => ?_)
  · have c0 : 0 ≤ sheet ∧ sheet ≤ 3 := px_b1n (of_decide_eq_false (px_nt c0))
    exact absurd c0 (px_sh_no hb)
  · have c0 : ¬ (0 ≤ sheet ∧ sheet ≤ 3) := px_b1z (of_decide_eq_true (px_nf c0))
    refine px_PW.steps kt_198.2 2 rfl ?_
    refine px_PW.ret kt_198.2 rfl rfl ?_
    exact ⟨rfl, rfl⟩
end
/-! part 30.cmid -/
section
theorem px_PW.lc {d : Nat} {code : Nat → Option px_A} {Q : Option Value → px_H → Prop} {pc : Nat} {lv lv' : px_L} {st : List Value} {h : px_H} (e : lv = lv') (k : px_PW d code Q pc lv' st h) : px_PW d code Q pc lv st h := by rw [e]; exact k
theorem nb_getN {Z N : Nat → Int32} {F : Nat → Nat → Int32} {q n L : Nat} (hq : q < 27) (hN : N q = nI L) (hL : L ≤ px_lim q) (hn : n < L) : px_PM 1 6 [.ref (px_O q), .int (nI n)] (px_CH Z N F, []) (fun r h' => r = some (.int (F q n)) ∧ h' = (px_CH Z N F, [])) := by
  have hb := (px_lim_i hq).2
  have h := nb_get (Z := Z) (N := N) (F := F) hq (nI n) (by rw [hN, nI_toInt (by omega)]; omega)
  rw [if_neg (by rw [hN, nI_leI (by omega) (by omega)]; exact fun c => c.elim (nI_pos (by omega)) (by omega)), nI_clamp (by omega)] at h
  exact h
theorem nb_setN {Z N : Nat → Int32} {F : Nat → Nat → Int32} {q n L : Nat} (hq : q < 27) (hN : N q = nI L) (hL : L ≤ px_lim q) (hn : n < L) (v : Int32) : px_PM 1 7 [.ref (px_O q), .int (nI n), .int v] (px_CH Z N F, []) (fun r h' => r = none ∧ h' = (px_CH Z N (va_up F q (upd (F q) n v)), [])) := by
  have hb := (px_lim_i hq).2
  have h := nb_set (Z := Z) (N := N) (F := F) hq (nI n) v (by rw [hN, nI_toInt (by omega)]; omega)
  rw [if_neg (by rw [hN, nI_leI (by omega) (by omega)]; exact fun c => c.elim (nI_pos (by omega)) (by omega)), nI_clamp (by omega)] at h
  exact h
theorem nb_addN {Z N : Nat → Int32} {F : Nat → Nat → Int32} {q n : Nat} (hq : q < 27) (hN : N q = nI n) (hn : n < px_lim q) (v : Int32) : px_PM 1 8 [.ref (px_O q), .int v] (px_CH Z N F, []) (fun r h' => r = none ∧ h' = (px_CH Z (upd N q (nI (n + 1))) (va_up F q (upd (F q) n v)), [])) := by
  have hb := (px_lim_i hq).2
  have h := nb_add (Z := Z) (N := N) (F := F) hq v (by rw [hN]; exact nI_pos' (by omega))
  rw [if_neg (by rw [hN]; exact nI_ge hn (by omega)), if_neg (by rw [hN]; exact nI_ge hn (by omega)), hN, nI_clamp (by omega), ← nI_succ] at h
  exact h
theorem zz_min (a b : Nat) (ha : a < 1000) (hb : b < 1000) : i_min (nI a) (nI b) = nI (min a b) := by
  unfold i_min
  by_cases c : b < a
  · rw [if_pos (nI_lt c (by omega)), show min a b = b by omega]
  · rw [if_neg (nI_nlt (by omega) (by omega)), show min a b = a by omega]
theorem zz_div {a b : Nat} (ha : a < 2 ^ 31) (hb : b < 2 ^ 31) : nI a / nI b = nI (a / b) := by
  apply Int32.toInt_inj.mp
  have h1 : a / b ≤ a := Nat.div_le_self a b
  rw [Int32.toInt_div, nI_toInt ha, nI_toInt hb, nI_toInt (by omega), ← Int.ofNat_tdiv]
  have key : ∀ c : Nat, c ≤ a → (c : Int).bmod (2 ^ 32) = c := fun c hc => Int.bmod_eq_of_le (by omega) (by omega)
  exact key _ h1
theorem zz_mul (a b : Nat) : nI a * nI b = nI (a * b) := (Int32.ofNat_mul a b).symm
theorem zz_sub {a b : Nat} (h : b ≤ a) : nI a - nI b = nI (a - b) := by
  have h2 := nI_add (a - b) b
  rw [show a - b + b = a by omega] at h2
  rw [← h2]
  exact Int32.add_sub_cancel _ _
theorem zz_rem {a b : Nat} (ha : a < 2 ^ 31) (hb : b < 2 ^ 31) : nI a - nI a / nI b * nI b = nI (a % b) := by
  rw [zz_div ha hb, zz_mul, zz_sub (Nat.div_mul_le_self a b), Nat.mod_eq_sub_div_mul]
theorem zz_irem {a b : Nat} (ha : a < 2 ^ 31) (h0 : 0 < b) (hb : b < 2 ^ 31) : i_rem (nI a) (nI b) = nI (a % b) := by
  unfold i_rem
  rw [if_neg (nI_ne0 h0 hb), zz_rem ha hb]
/-- what a draw gives, as a natural number -/
def zz_dr (z : Int32) : Nat := ((z * 1103515245 + 12345).toUInt32 >>> 8).toNat
def zz_dz (z : Int32) : Int32 := z * 1103515245 + 12345
theorem zz_dr_lt (z : Int32) : zz_dr z < 16777216 := by
  unfold zz_dr
  rw [UInt32.toNat_shiftRight, Nat.shiftRight_eq_div_pow]
  have h := UInt32.toNat_lt (z * 1103515245 + 12345).toUInt32
  have e : (8 : UInt32).toNat % 32 = 8 := by decide
  rw [e]
  omega
theorem zz_dr_eq (z : Int32) : ((z * 1103515245 + 12345).toUInt32 >>> (Int32.toUInt32 8 &&& Int32.toUInt32 31)).toInt32 = nI (zz_dr z) := by
  have e : (Int32.toUInt32 8 &&& Int32.toUInt32 31) = 8 := by decide
  rw [e]
  unfold zz_dr nI
  apply Int32.toInt_inj.mp
  rw [Int32.toInt_ofNat_of_lt (by have := zz_dr_lt z; unfold zz_dr at this; omega)]
  have h := zz_dr_lt z
  unfold zz_dr at h
  generalize (z * 1103515245 + 12345).toUInt32 >>> 8 = u at h ⊢
  show u.toBitVec.toInt = _
  rw [BitVec.toInt_eq_toNat_of_lt (by show 2 * u.toNat < 2 ^ 32; omega)]
  rfl
def s_keepN (N : Nat → Int32) : Nat → Int32 := (upd (upd (upd (upd (upd (upd (upd (upd (upd N 9 (N 0)) 10 (N 1)) 11 (N 2)) 12 (N 3)) 13 (N 4)) 14 (N 5)) 15 (N 6)) 16 (N 7)) 17 (N 8))
def s_keepF (N : Nat → Int32) (F : Nat → Nat → Int32) : Nat → Nat → Int32 := (va_up (va_up (va_up (va_up (va_up (va_up (va_up (va_up (va_up F 9 (px_ov (F 0) (F 9) (N 0).toNatClampNeg)) 10 (px_ov (F 1) (F 10) (N 1).toNatClampNeg)) 11 (px_ov (F 2) (F 11) (N 2).toNatClampNeg)) 12 (px_ov (F 3) (F 12) (N 3).toNatClampNeg)) 13 (px_ov (F 4) (F 13) (N 4).toNatClampNeg)) 14 (px_ov (F 5) (F 14) (N 5).toNatClampNeg)) 15 (px_ov (F 6) (F 15) (N 6).toNatClampNeg)) 16 (px_ov (F 7) (F 16) (N 7).toNatClampNeg)) 17 (px_ov (F 8) (F 17) (N 8).toNatClampNeg))
theorem cc_keep {Z N : Nat → Int32} {F : Nat → Nat → Int32} (hw : px_cw N) : px_PM 4 1 [.ref 20, .ref 1] (px_CH Z N F, []) (fun r h' => r = none ∧ h' = (px_CH (upd Z 1 (Z 0)) (s_keepN N) (s_keepF N F), [])) := by
  refine px_PM.start (nL := 2) (code := pc_1) rfl rfl ?_
  refine px_PW.steps kt_1.2 4 rfl ?_
  refine px_PW.callV kt_1.2 rfl rfl rfl rfl (nb_copy (N := N) (q := 9) (p := 0) (by decide) (by decide) (by decide) (hw.nn (q := 0) (by decide)) (hw.lim (q := 0) (by decide)) (hw.lim (q := 0) (by decide))) (by decide) (fun v h1 q => ?_)
  obtain ⟨rfl, rfl⟩ := q
  refine px_PW.steps kt_1.2 4 rfl ?_
  refine px_PW.callV kt_1.2 rfl rfl rfl rfl (nb_copy (N := (upd N 9 (N 0))) (q := 10) (p := 1) (by decide) (by decide) (by decide) (hw.nn (q := 1) (by decide)) (hw.lim (q := 1) (by decide)) (hw.lim (q := 1) (by decide))) (by decide) (fun v h1 q => ?_)
  obtain ⟨rfl, rfl⟩ := q
  refine px_PW.steps kt_1.2 4 rfl ?_
  refine px_PW.callV kt_1.2 rfl rfl rfl rfl (nb_copy (N := (upd (upd N 9 (N 0)) 10 (N 1))) (q := 11) (p := 2) (by decide) (by decide) (by decide) (hw.nn (q := 2) (by decide)) (hw.lim (q := 2) (by decide)) (hw.lim (q := 2) (by decide))) (by decide) (fun v h1 q => ?_)
  obtain ⟨rfl, rfl⟩ := q
  refine px_PW.steps kt_1.2 4 rfl ?_
  refine px_PW.callV kt_1.2 rfl rfl rfl rfl (nb_copy (N := (upd (upd (upd N 9 (N 0)) 10 (N 1)) 11 (N 2))) (q := 12) (p := 3) (by decide) (by decide) (by decide) (hw.nn (q := 3) (by decide)) (hw.lim (q := 3) (by decide)) (hw.lim (q := 3) (by decide))) (by decide) (fun v h1 q => ?_)
  obtain ⟨rfl, rfl⟩ := q
  refine px_PW.steps kt_1.2 4 rfl ?_
  refine px_PW.callV kt_1.2 rfl rfl rfl rfl (nb_copy (N := (upd (upd (upd (upd N 9 (N 0)) 10 (N 1)) 11 (N 2)) 12 (N 3))) (q := 13) (p := 4) (by decide) (by decide) (by decide) (hw.nn (q := 4) (by decide)) (hw.lim (q := 4) (by decide)) (hw.lim (q := 4) (by decide))) (by decide) (fun v h1 q => ?_)
  obtain ⟨rfl, rfl⟩ := q
  refine px_PW.steps kt_1.2 4 rfl ?_
  refine px_PW.callV kt_1.2 rfl rfl rfl rfl (nb_copy (N := (upd (upd (upd (upd (upd N 9 (N 0)) 10 (N 1)) 11 (N 2)) 12 (N 3)) 13 (N 4))) (q := 14) (p := 5) (by decide) (by decide) (by decide) (hw.nn (q := 5) (by decide)) (hw.lim (q := 5) (by decide)) (hw.lim (q := 5) (by decide))) (by decide) (fun v h1 q => ?_)
  obtain ⟨rfl, rfl⟩ := q
  refine px_PW.steps kt_1.2 4 rfl ?_
  refine px_PW.callV kt_1.2 rfl rfl rfl rfl (nb_copy (N := (upd (upd (upd (upd (upd (upd N 9 (N 0)) 10 (N 1)) 11 (N 2)) 12 (N 3)) 13 (N 4)) 14 (N 5))) (q := 15) (p := 6) (by decide) (by decide) (by decide) (hw.nn (q := 6) (by decide)) (hw.lim (q := 6) (by decide)) (hw.lim (q := 6) (by decide))) (by decide) (fun v h1 q => ?_)
  obtain ⟨rfl, rfl⟩ := q
  refine px_PW.steps kt_1.2 4 rfl ?_
  refine px_PW.callV kt_1.2 rfl rfl rfl rfl (nb_copy (N := (upd (upd (upd (upd (upd (upd (upd N 9 (N 0)) 10 (N 1)) 11 (N 2)) 12 (N 3)) 13 (N 4)) 14 (N 5)) 15 (N 6))) (q := 16) (p := 7) (by decide) (by decide) (by decide) (hw.nn (q := 7) (by decide)) (hw.lim (q := 7) (by decide)) (hw.lim (q := 7) (by decide))) (by decide) (fun v h1 q => ?_)
  obtain ⟨rfl, rfl⟩ := q
  refine px_PW.steps kt_1.2 4 rfl ?_
  refine px_PW.callV kt_1.2 rfl rfl rfl rfl (nb_copy (N := (upd (upd (upd (upd (upd (upd (upd (upd N 9 (N 0)) 10 (N 1)) 11 (N 2)) 12 (N 3)) 13 (N 4)) 14 (N 5)) 15 (N 6)) 16 (N 7))) (q := 17) (p := 8) (by decide) (by decide) (by decide) (hw.nn (q := 8) (by decide)) (hw.lim (q := 8) (by decide)) (hw.lim (q := 8) (by decide))) (by decide) (fun v h1 q => ?_)
  obtain ⟨rfl, rfl⟩ := q
  refine px_PW.steps kt_1.2 3 rfl ?_
  refine px_op_1 kt_1.2 rfl ?_
  refine px_PW.ret kt_1.2 rfl rfl ?_
  exact ⟨rfl, rfl⟩
def s_takeN (N : Nat → Int32) : Nat → Int32 := (upd (upd (upd (upd (upd (upd (upd (upd (upd N 0 (N 9)) 1 (N 10)) 2 (N 11)) 3 (N 12)) 4 (N 13)) 5 (N 14)) 6 (N 15)) 7 (N 16)) 8 (N 17))
def s_takeF (N : Nat → Int32) (F : Nat → Nat → Int32) : Nat → Nat → Int32 := (va_up (va_up (va_up (va_up (va_up (va_up (va_up (va_up (va_up F 0 (px_ov (F 9) (F 0) (N 9).toNatClampNeg)) 1 (px_ov (F 10) (F 1) (N 10).toNatClampNeg)) 2 (px_ov (F 11) (F 2) (N 11).toNatClampNeg)) 3 (px_ov (F 12) (F 3) (N 12).toNatClampNeg)) 4 (px_ov (F 13) (F 4) (N 13).toNatClampNeg)) 5 (px_ov (F 14) (F 5) (N 14).toNatClampNeg)) 6 (px_ov (F 15) (F 6) (N 15).toNatClampNeg)) 7 (px_ov (F 16) (F 7) (N 16).toNatClampNeg)) 8 (px_ov (F 17) (F 8) (N 17).toNatClampNeg))
theorem cc_take {Z N : Nat → Int32} {F : Nat → Nat → Int32} (hw : px_cw N) : px_PM 4 1 [.ref 1, .ref 20] (px_CH Z N F, []) (fun r h' => r = none ∧ h' = (px_CH (upd Z 0 (Z 1)) (s_takeN N) (s_takeF N F), [])) := by
  refine px_PM.start (nL := 2) (code := pc_1) rfl rfl ?_
  refine px_PW.steps kt_1.2 4 rfl ?_
  refine px_PW.callV kt_1.2 rfl rfl rfl rfl (nb_copy (N := N) (q := 0) (p := 9) (by decide) (by decide) (by decide) (hw.nn (q := 9) (by decide)) (hw.lim (q := 9) (by decide)) (hw.lim (q := 9) (by decide))) (by decide) (fun v h1 q => ?_)
  obtain ⟨rfl, rfl⟩ := q
  refine px_PW.steps kt_1.2 4 rfl ?_
  refine px_PW.callV kt_1.2 rfl rfl rfl rfl (nb_copy (N := (upd N 0 (N 9))) (q := 1) (p := 10) (by decide) (by decide) (by decide) (hw.nn (q := 10) (by decide)) (hw.lim (q := 10) (by decide)) (hw.lim (q := 10) (by decide))) (by decide) (fun v h1 q => ?_)
  obtain ⟨rfl, rfl⟩ := q
  refine px_PW.steps kt_1.2 4 rfl ?_
  refine px_PW.callV kt_1.2 rfl rfl rfl rfl (nb_copy (N := (upd (upd N 0 (N 9)) 1 (N 10))) (q := 2) (p := 11) (by decide) (by decide) (by decide) (hw.nn (q := 11) (by decide)) (hw.lim (q := 11) (by decide)) (hw.lim (q := 11) (by decide))) (by decide) (fun v h1 q => ?_)
  obtain ⟨rfl, rfl⟩ := q
  refine px_PW.steps kt_1.2 4 rfl ?_
  refine px_PW.callV kt_1.2 rfl rfl rfl rfl (nb_copy (N := (upd (upd (upd N 0 (N 9)) 1 (N 10)) 2 (N 11))) (q := 3) (p := 12) (by decide) (by decide) (by decide) (hw.nn (q := 12) (by decide)) (hw.lim (q := 12) (by decide)) (hw.lim (q := 12) (by decide))) (by decide) (fun v h1 q => ?_)
  obtain ⟨rfl, rfl⟩ := q
  refine px_PW.steps kt_1.2 4 rfl ?_
  refine px_PW.callV kt_1.2 rfl rfl rfl rfl (nb_copy (N := (upd (upd (upd (upd N 0 (N 9)) 1 (N 10)) 2 (N 11)) 3 (N 12))) (q := 4) (p := 13) (by decide) (by decide) (by decide) (hw.nn (q := 13) (by decide)) (hw.lim (q := 13) (by decide)) (hw.lim (q := 13) (by decide))) (by decide) (fun v h1 q => ?_)
  obtain ⟨rfl, rfl⟩ := q
  refine px_PW.steps kt_1.2 4 rfl ?_
  refine px_PW.callV kt_1.2 rfl rfl rfl rfl (nb_copy (N := (upd (upd (upd (upd (upd N 0 (N 9)) 1 (N 10)) 2 (N 11)) 3 (N 12)) 4 (N 13))) (q := 5) (p := 14) (by decide) (by decide) (by decide) (hw.nn (q := 14) (by decide)) (hw.lim (q := 14) (by decide)) (hw.lim (q := 14) (by decide))) (by decide) (fun v h1 q => ?_)
  obtain ⟨rfl, rfl⟩ := q
  refine px_PW.steps kt_1.2 4 rfl ?_
  refine px_PW.callV kt_1.2 rfl rfl rfl rfl (nb_copy (N := (upd (upd (upd (upd (upd (upd N 0 (N 9)) 1 (N 10)) 2 (N 11)) 3 (N 12)) 4 (N 13)) 5 (N 14))) (q := 6) (p := 15) (by decide) (by decide) (by decide) (hw.nn (q := 15) (by decide)) (hw.lim (q := 15) (by decide)) (hw.lim (q := 15) (by decide))) (by decide) (fun v h1 q => ?_)
  obtain ⟨rfl, rfl⟩ := q
  refine px_PW.steps kt_1.2 4 rfl ?_
  refine px_PW.callV kt_1.2 rfl rfl rfl rfl (nb_copy (N := (upd (upd (upd (upd (upd (upd (upd N 0 (N 9)) 1 (N 10)) 2 (N 11)) 3 (N 12)) 4 (N 13)) 5 (N 14)) 6 (N 15))) (q := 7) (p := 16) (by decide) (by decide) (by decide) (hw.nn (q := 16) (by decide)) (hw.lim (q := 16) (by decide)) (hw.lim (q := 16) (by decide))) (by decide) (fun v h1 q => ?_)
  obtain ⟨rfl, rfl⟩ := q
  refine px_PW.steps kt_1.2 4 rfl ?_
  refine px_PW.callV kt_1.2 rfl rfl rfl rfl (nb_copy (N := (upd (upd (upd (upd (upd (upd (upd (upd N 0 (N 9)) 1 (N 10)) 2 (N 11)) 3 (N 12)) 4 (N 13)) 5 (N 14)) 6 (N 15)) 7 (N 16))) (q := 8) (p := 17) (by decide) (by decide) (by decide) (hw.nn (q := 17) (by decide)) (hw.lim (q := 17) (by decide)) (hw.lim (q := 17) (by decide))) (by decide) (fun v h1 q => ?_)
  obtain ⟨rfl, rfl⟩ := q
  refine px_PW.steps kt_1.2 3 rfl ?_
  refine px_op_0 kt_1.2 rfl ?_
  refine px_PW.ret kt_1.2 rfl rfl ?_
  exact ⟨rfl, rfl⟩
def s_image (Z N : Nat → Int32) (F : Nat → Nat → Int32)  : Int32 × (Nat → Int32) × (Nat → Int32) × (Nat → Nat → Int32) := (((Z 21) + 1), (upd (upd Z 1 (Z 0)) 21 ((Z 21) + 1)), (s_keepN N), (s_keepF N F))
theorem kc_image {Z N : Nat → Int32} {F : Nat → Nat → Int32} (hw : px_cw N)  : px_PM 5 80 [.ref 0] (px_CH Z N F, []) (fun r h' => r = some (.int (s_image Z N F).1) ∧ ∃ Z' N' F', px_sc (s_image Z N F).2.1 (s_image Z N F).2.2.1 (s_image Z N F).2.2.2 Z' N' F' ∧ h' = (px_CH Z' N' F', [])) := by
  refine px_PM.start (nL := 1) (code := pc_80) rfl rfl ?_
  refine px_PW.steps kt_80.2 4 rfl ?_
  refine px_PW.callV kt_80.2 rfl rfl rfl rfl (cc_keep hw) (by decide) (fun v h1 q => ?_)
  obtain ⟨rfl, rfl⟩ := q
  refine px_PW.steps kt_80.2 5 rfl ?_
  refine px_op_21 kt_80.2 rfl ?_
  refine px_PW.steps kt_80.2 2 rfl ?_
  refine px_PW.ret kt_80.2 rfl rfl ?_
  have E : s_image Z N F = (((Z 21) + 1), (upd (upd Z 1 (Z 0)) 21 ((Z 21) + 1)), (s_keepN N), (s_keepF N F)) := rfl
  rw [E]
  exact ⟨rfl, _, _, _, px_sc.rf, rfl⟩
def s_restore (Z N : Nat → Int32) (F : Nat → Nat → Int32)  : Int32 × (Nat → Int32) × (Nat → Int32) × (Nat → Nat → Int32) := (if (Z 21) = 0 then ((-1000000000 - 2), Z, N, F) else ((((s_takeF N F) 0) 6), (upd Z 0 (Z 1)), (s_takeN N), (s_takeF N F)))
theorem kc_restore {Z N : Nat → Int32} {F : Nat → Nat → Int32} (hw : px_cw N)  : px_PM 5 81 [.ref 0] (px_CH Z N F, []) (fun r h' => r = some (.int (s_restore Z N F).1) ∧ ∃ Z' N' F', px_sc (s_restore Z N F).2.1 (s_restore Z N F).2.2.1 (s_restore Z N F).2.2.2 Z' N' F' ∧ h' = (px_CH Z' N' F', [])) := by
  refine px_PM.start (nL := 1) (code := pc_81) rfl rfl ?_
  refine px_PW.steps kt_81.2 3 rfl ?_
  refine px_PW.br (fun c0 => ?_) (fun c0 => ?_)
  · have c0 : ¬ ((Z 21) = 0) := of_decide_eq_false (px_nt c0)
    refine px_PW.steps kt_81.2 4 rfl ?_
    refine px_PW.callV kt_81.2 rfl rfl rfl rfl (cc_take hw) (by decide) (fun v h1 q => ?_)
    obtain ⟨rfl, rfl⟩ := q
    refine px_PW.steps kt_81.2 2 rfl ?_
    refine px_PW.callV kt_81.2 rfl rfl rfl rfl (cc_is (N := (s_takeN N)) (show s_takeN N 0 = 7 from hw.2.1) 6 (by decide)) (by decide) (fun v h1 q => ?_)
    obtain ⟨rfl, rfl⟩ := q
    refine px_PW.ret kt_81.2 rfl rfl ?_
    have E : s_restore Z N F = ((((s_takeF N F) 0) 6), (upd Z 0 (Z 1)), (s_takeN N), (s_takeF N F)) := if_neg c0
    rw [E]
    exact ⟨rfl, _, _, _, px_sc.rf, rfl⟩
  · have c0 : (Z 21) = 0 := of_decide_eq_true (px_nf c0)
    refine px_PW.steps kt_81.2 2 rfl ?_
    refine px_PW.callV kt_81.2 rfl rfl rfl rfl (cc_error hw.2.2.1 2 (by decide)) (by decide) (fun v h1 q => ?_)
    obtain ⟨rfl, rfl⟩ := q
    refine px_PW.ret kt_81.2 rfl rfl ?_
    have E : s_restore Z N F = ((-1000000000 - 2), Z, N, F) := if_pos c0
    rw [E]
    exact ⟨rfl, _, _, _, px_sc.err, rfl⟩
def s_above (k : Int32) : Int32 := if k = 4 then 1 else if k = 5 then 2 else if k = 6 then 3 else 0
theorem px_swd_95_1 {x : Int32} (c0 : ¬ (x = 4)) (c1 : ¬ (x = 5)) (c2 : ¬ (x = 6)) : px_sw 4 [28, 30, 32] 34 x.toInt = 34 := by
  have d0 : ¬ (x.toInt = 4) := fun h => c0 (px_i_of h (by decide +kernel))
  have d1 : ¬ (x.toInt = 5) := fun h => c1 (px_i_of h (by decide +kernel))
  have d2 : ¬ (x.toInt = 6) := fun h => c2 (px_i_of h (by decide +kernel))
  exact px_sw_d (fun y h1 h2 => by
    have h1 : (4 : Int) ≤ y := h1
    have h2 : y < 7 := h2
    rcases (show y = 4 ∨ y = 5 ∨ y = 6 by omega) with rfl | rfl | rfl
    · exact Or.inl (fun h => d0 h)
    · exact Or.inl (fun h => d1 h)
    · exact Or.inl (fun h => d2 h))
theorem cc_above   (k : Int32) (h : px_H) : px_PM 1 95 [.int k] h (fun r h' => r = some (.int (s_above k)) ∧ h' = h) := by
  refine px_PM.start (nL := 1) (code := pc_95) rfl rfl ?_
  refine px_PW.steps kt_95.2 2 rfl ?_
  by_cases c0 : k = 4
  · refine px_PW.at (pc' := 28) (by rw [c0]; rfl) ?_
    refine px_PW.steps kt_95.2 1 rfl ?_
    refine px_PW.ret kt_95.2 rfl rfl ?_
    exact ⟨congrArg (fun z => some (Value.int z)) (show s_above k = _ from if_pos c0).symm, rfl⟩
  · skip
    by_cases c1 : k = 5
    · refine px_PW.at (pc' := 30) (by rw [c1]; rfl) ?_
      refine px_PW.steps kt_95.2 1 rfl ?_
      refine px_PW.ret kt_95.2 rfl rfl ?_
      exact ⟨congrArg (fun z => some (Value.int z)) (show s_above k = _ from (if_neg c0).trans (if_pos c1)).symm, rfl⟩
    · skip
      by_cases c2 : k = 6
      · refine px_PW.at (pc' := 32) (by rw [c2]; rfl) ?_
        refine px_PW.steps kt_95.2 1 rfl ?_
        refine px_PW.ret kt_95.2 rfl rfl ?_
        exact ⟨congrArg (fun z => some (Value.int z)) (show s_above k = _ from (if_neg c0).trans ((if_neg c1).trans (if_pos c2))).symm, rfl⟩
      · skip
        refine px_PW.at (px_swd_95_1 c0 c1 c2) ?_
        refine px_PW.steps kt_95.2 1 rfl ?_
        refine px_PW.ret kt_95.2 rfl rfl ?_
        exact ⟨congrArg (fun z => some (Value.int z)) (show s_above k = _ from (if_neg c0).trans ((if_neg c1).trans (if_neg c2))).symm, rfl⟩
theorem cc_isOfKind   (own kind : Int32) (h : px_H) : px_PM 2 94 [.int own, .int kind] h (fun r h' => r = some (.int (if kind = 0 ∨ kind = own ∨ kind = s_above own then 1 else 0)) ∧ h' = h) := by
  refine px_PM.start (nL := 2) (code := pc_94) rfl rfl ?_
  refine px_PW.steps kt_94.2 2 rfl ?_
  refine px_PW.br (fun c0 => ?_) (fun c0 => ?_)
  · have c0 : kind = 0 := of_decide_eq_true c0
    refine px_PW.steps kt_94.2 2 rfl ?_
    refine px_PW.ret kt_94.2 rfl rfl ?_
    exact ⟨by simp [*], rfl⟩
  · have c0 : ¬ (kind = 0) := of_decide_eq_false c0
    refine px_PW.steps kt_94.2 3 rfl ?_
    refine px_PW.br (fun c1 => ?_) (fun c1 => ?_)
    · have c1 : kind = own := of_decide_eq_true c1
      refine px_PW.steps kt_94.2 2 rfl ?_
      refine px_PW.ret kt_94.2 rfl rfl ?_
      exact ⟨by simp [*], rfl⟩
    · have c1 : ¬ (kind = own) := of_decide_eq_false c1
      refine px_PW.steps kt_94.2 2 rfl ?_
      refine px_PW.callS kt_94.2 rfl rfl rfl (cc_above _ _) (by decide) (fun v h1 q => ?_)
      obtain ⟨rfl, rfl⟩ := q
      refine px_PW.steps kt_94.2 1 rfl ?_
      refine px_PW.br (fun c2 => ?_) (fun c2 => ?_)
      · have c2 : ¬ (kind = (s_above own)) := of_decide_eq_false (px_nt c2)
        refine px_PW.steps kt_94.2 1 rfl ?_
        refine px_PW.ret kt_94.2 rfl rfl ?_
        exact ⟨by simp [*], rfl⟩
      · have c2 : kind = (s_above own) := of_decide_eq_true (px_nf c2)
        refine px_PW.steps kt_94.2 2 rfl ?_
        refine px_PW.ret kt_94.2 rfl rfl ?_
        exact ⟨by simp [*], rfl⟩
def s_as (Z N : Nat → Int32) (F : Nat → Nat → Int32) (thing : Int32) (kind : Int32) : Int32 := (if thing < 0 ∨ (N 1) ≤ thing then (-1000000000 - 1) else (if kind < 0 then (-1000000000 - 1) else (if kind ≤ 6 then (if kind = 0 ∨ kind = ((F 1) (thing).toNatClampNeg) ∨ kind = s_above ((F 1) (thing).toNatClampNeg) then ((F 2) (thing).toNatClampNeg) else (-1000000000 - 5)) else (-1000000000 - 1))))
theorem kc_as {Z N : Nat → Int32} {F : Nat → Nat → Int32} (hw : px_cw N) (hT : N 2 = N 1 ∧ N 3 = N 1 ∧ N 4 = N 1) (thing : Int32) (kind : Int32) : px_PM 3 55 [.ref 0, .int thing, .int kind] (px_CH Z N F, []) (fun r h' => r = some (.int (s_as Z N F thing kind)) ∧ ∃ Z' N' F', px_sc Z N F Z' N' F' ∧ h' = (px_CH Z' N' F', [])) := by
  refine px_PM.start (nL := 3) (code := pc_55) rfl rfl ?_
  refine px_PW.steps kt_55.2 2 rfl ?_
  refine px_PW.callV kt_55.2 rfl rfl rfl rfl (cc_isThing _) (by decide) (fun v h1 q => ?_)
  obtain ⟨rfl, rfl⟩ := q
  refine px_PW.steps kt_55.2 1 rfl ?_
  refine px_PW.br (fun c0 => ?_) (fun c0 => ?_)
  · have c0 : thing < 0 ∨ (N 1) ≤ thing := px_b0z (of_decide_eq_true c0)
    refine px_PW.steps kt_55.2 2 rfl ?_
    refine px_PW.callV kt_55.2 rfl rfl rfl rfl (cc_error hw.2.2.1 1 (by decide)) (by decide) (fun v h1 q => ?_)
    obtain ⟨rfl, rfl⟩ := q
    refine px_PW.ret kt_55.2 rfl rfl ?_
    have E : s_as Z N F thing kind = (-1000000000 - 1) := if_pos c0
    rw [E]
    exact ⟨rfl, _, _, _, px_sc.err, rfl⟩
  · have c0 : ¬ (thing < 0 ∨ (N 1) ≤ thing) := px_b0n (of_decide_eq_false c0)
    refine px_PW.steps kt_55.2 2 rfl ?_
    refine px_PW.br (fun c1 => ?_) (fun c1 => ?_)
    · have c1 : kind < 0 := of_decide_eq_true c1
      refine px_PW.steps kt_55.2 2 rfl ?_
      refine px_PW.callV kt_55.2 rfl rfl rfl rfl (cc_error hw.2.2.1 1 (by decide)) (by decide) (fun v h1 q => ?_)
      obtain ⟨rfl, rfl⟩ := q
      refine px_PW.ret kt_55.2 rfl rfl ?_
      have E : s_as Z N F thing kind = (-1000000000 - 1) := (if_neg c0).trans (if_pos c1)
      rw [E]
      exact ⟨rfl, _, _, _, px_sc.err, rfl⟩
    · have c1 : ¬ (kind < 0) := of_decide_eq_false c1
      refine px_PW.steps kt_55.2 3 rfl ?_
      refine px_PW.br (fun c2 => ?_) (fun c2 => ?_)
      · have c2 : kind ≤ 6 := of_decide_eq_true c2
        refine px_PW.steps kt_55.2 4 rfl ?_
        refine px_PW.callV kt_55.2 rfl rfl rfl rfl (nb_getT (q := 1) (by decide) (hw.lim (by decide)) rfl c0) (by decide) (fun v h1 q => ?_)
        obtain ⟨rfl, rfl⟩ := q
        refine px_PW.steps kt_55.2 1 rfl ?_
        refine px_PW.callS kt_55.2 rfl rfl rfl (cc_isOfKind _ _ _) (by decide) (fun v h1 q => ?_)
        obtain ⟨rfl, rfl⟩ := q
        refine px_PW.steps kt_55.2 1 rfl ?_
        refine px_PW.br (fun c3 => ?_) (fun c3 => ?_)
        · have c3 : ¬ (kind = 0 ∨ kind = ((F 1) (thing).toNatClampNeg) ∨ kind = s_above ((F 1) (thing).toNatClampNeg)) := px_b1z (of_decide_eq_true c3)
          refine px_PW.steps kt_55.2 2 rfl ?_
          refine px_PW.callV kt_55.2 rfl rfl rfl rfl (cc_error hw.2.2.1 5 (by decide)) (by decide) (fun v h1 q => ?_)
          obtain ⟨rfl, rfl⟩ := q
          refine px_PW.ret kt_55.2 rfl rfl ?_
          have E : s_as Z N F thing kind = (-1000000000 - 5) := (if_neg c0).trans ((if_neg c1).trans ((if_pos c2).trans (if_neg c3)))
          rw [E]
          exact ⟨rfl, _, _, _, px_sc.err, rfl⟩
        · have c3 : kind = 0 ∨ kind = ((F 1) (thing).toNatClampNeg) ∨ kind = s_above ((F 1) (thing).toNatClampNeg) := px_b1n (of_decide_eq_false c3)
          refine px_PW.steps kt_55.2 4 rfl ?_
          refine px_PW.callV kt_55.2 rfl rfl rfl rfl (nb_getT (q := 2) (by decide) (hw.lim (by decide)) hT.1 c0) (by decide) (fun v h1 q => ?_)
          obtain ⟨rfl, rfl⟩ := q
          refine px_PW.steps kt_55.2 1 rfl ?_
          refine px_PW.ret kt_55.2 rfl rfl ?_
          have E : s_as Z N F thing kind = ((F 2) (thing).toNatClampNeg) := (if_neg c0).trans ((if_neg c1).trans ((if_pos c2).trans (if_pos c3)))
          rw [E]
          exact ⟨rfl, _, _, _, px_sc.rf, rfl⟩
      · have c2 : ¬ (kind ≤ 6) := of_decide_eq_false c2
        refine px_PW.steps kt_55.2 2 rfl ?_
        refine px_PW.callV kt_55.2 rfl rfl rfl rfl (cc_error hw.2.2.1 1 (by decide)) (by decide) (fun v h1 q => ?_)
        obtain ⟨rfl, rfl⟩ := q
        refine px_PW.ret kt_55.2 rfl rfl ?_
        have E : s_as Z N F thing kind = (-1000000000 - 1) := (if_neg c0).trans ((if_neg c1).trans (if_neg c2))
        rw [E]
        exact ⟨rfl, _, _, _, px_sc.err, rfl⟩
theorem cc_draw {Z N : Nat → Int32} {F : Nat → Nat → Int32}   : px_PM 1 114 [.ref 0] (px_CH Z N F, []) (fun r h' => r = some (.int (nI (zz_dr (Z 0)))) ∧ h' = (px_CH (upd Z 0 (zz_dz (Z 0))) N F, [])) := by
  refine px_PM.start (nL := 1) (code := pc_114) rfl rfl ?_
  refine px_PW.steps kt_114.2 9 rfl ?_
  refine px_op_0 kt_114.2 rfl ?_
  refine px_PW.steps kt_114.2 5 rfl ?_
  refine px_PW.ret kt_114.2 rfl rfl ?_
  exact ⟨congrArg (fun z => some (Value.int z)) (zz_dr_eq (Z 0)), rfl⟩
end
/-! part 31.cloop -/
section
theorem zz_remT {x : Int32} {M a : Nat} (hM : x = nI M) (hM6 : M ≤ 6) (ha : a < 2 ^ 31) (c : 0 < x) : ¬ (i_rem (nI a) x < 0 ∨ x ≤ i_rem (nI a) x) := by
  subst hM
  have h0 : 0 < M := by
    rcases Nat.eq_zero_or_pos M with h | h
    · subst h; exact absurd c (by decide)
    · exact h
  have h1 := Nat.mod_lt a h0
  rw [zz_irem ha h0 (by omega), nI_leI (by omega) (by omega)]
  exact fun q => q.elim (nI_pos (by omega)) (by omega)
def s_chg (Z N : Nat → Int32) (F : Nat → Nat → Int32)  : (Nat → Int32) × (Nat → Int32) × (Nat → Nat → Int32) := (if (N 1) ≤ 0 then ((upd Z 0 (zz_dz (Z 0))), N, (va_up F 0 (upd (F 0) 6 (1 + (i_rem (nI (zz_dr (Z 0))) ((F 0) 1)))))) else ((upd (upd (upd Z 0 (zz_dz (Z 0))) 0 (zz_dz (zz_dz (Z 0)))) 0 (zz_dz (zz_dz (zz_dz (Z 0))))), N, (va_up (va_up F 0 (upd (F 0) 6 (1 + (i_rem (nI (zz_dr (Z 0))) ((F 0) 1))))) 3 (upd (F 3) ((i_rem (nI (zz_dr (zz_dz (Z 0)))) (N 1))).toNatClampNeg (i_rem (nI (zz_dr (zz_dz (zz_dz (Z 0))))) (((upd (F 0) 6 (1 + (i_rem (nI (zz_dr (Z 0))) ((F 0) 1)))) 0) + 1))))))
theorem kc_chg {Z N : Nat → Int32} {F : Nat → Nat → Int32} (hw : px_cw N) (hT : N 2 = N 1 ∧ N 3 = N 1 ∧ N 4 = N 1) {M : Nat} (hM : N 1 = nI M) (hM6 : M ≤ 6)  : px_PM 3 115 [.ref 0] (px_CH Z N F, []) (fun r h' => r = none ∧ ∃ Z' N' F', px_sc (s_chg Z N F).1 (s_chg Z N F).2.1 (s_chg Z N F).2.2 Z' N' F' ∧ h' = (px_CH Z' N' F', [])) := by
  refine px_PM.start (nL := 2) (code := pc_115) rfl rfl ?_
  refine px_PW.steps kt_115.2 6 rfl ?_
  refine px_PW.callV kt_115.2 rfl rfl rfl rfl (cc_draw) (by decide) (fun v h1 q => ?_)
  obtain ⟨rfl, rfl⟩ := q
  refine px_PW.steps kt_115.2 2 rfl ?_
  refine px_PW.callV kt_115.2 rfl rfl rfl rfl (cc_is (N := N) hw.1 1 (by decide)) (by decide) (fun v h1 q => ?_)
  obtain ⟨rfl, rfl⟩ := q
  refine px_PW.callS kt_115.2 rfl rfl rfl (cc_rest _ _ _) (by decide) (fun v h1 q => ?_)
  obtain ⟨rfl, rfl⟩ := q
  refine px_PW.steps kt_115.2 1 rfl ?_
  refine px_PW.callV kt_115.2 rfl rfl rfl rfl (nb_setW hw.1 6 (by decide) _) (by decide) (fun v h1 q => ?_)
  obtain ⟨rfl, rfl⟩ := q
  refine px_PW.steps kt_115.2 3 rfl ?_
  refine px_PW.callV kt_115.2 rfl rfl rfl rfl (nb_size (q := 1) (by decide)) (by decide) (fun v h1 q => ?_)
  obtain ⟨rfl, rfl⟩ := q
  refine px_PW.steps kt_115.2 1 rfl ?_
  refine px_PW.br (fun c0 => ?_) (fun c0 => ?_)
  · have c0 : (N 1) ≤ 0 := of_decide_eq_true c0
    refine px_PW.ret kt_115.2 rfl rfl ?_
    have E : s_chg Z N F = ((upd Z 0 (zz_dz (Z 0))), N, (va_up F 0 (upd (F 0) 6 (1 + (i_rem (nI (zz_dr (Z 0))) ((F 0) 1)))))) := if_pos c0
    rw [E]
    exact ⟨rfl, _, _, _, px_sc.rf, rfl⟩
  · have c0 : ¬ ((N 1) ≤ 0) := of_decide_eq_false c0
    refine px_PW.steps kt_115.2 1 rfl ?_
    refine px_PW.callV kt_115.2 rfl rfl rfl rfl (cc_draw) (by decide) (fun v h1 q => ?_)
    obtain ⟨rfl, rfl⟩ := q
    refine px_PW.steps kt_115.2 3 rfl ?_
    refine px_PW.callV kt_115.2 rfl rfl rfl rfl (nb_size (q := 1) (by decide)) (by decide) (fun v h1 q => ?_)
    obtain ⟨rfl, rfl⟩ := q
    refine px_PW.callS kt_115.2 rfl rfl rfl (cc_rest _ _ _) (by decide) (fun v h1 q => ?_)
    obtain ⟨rfl, rfl⟩ := q
    refine px_PW.steps kt_115.2 6 rfl ?_
    refine px_PW.callV kt_115.2 rfl rfl rfl rfl (cc_draw) (by decide) (fun v h1 q => ?_)
    obtain ⟨rfl, rfl⟩ := q
    refine px_PW.steps kt_115.2 2 rfl ?_
    refine px_PW.callV kt_115.2 rfl rfl rfl rfl (cc_is (N := N) hw.1 0 (by decide)) (by decide) (fun v h1 q => ?_)
    obtain ⟨rfl, rfl⟩ := q
    refine px_PW.steps kt_115.2 2 rfl ?_
    refine px_PW.callS kt_115.2 rfl rfl rfl (cc_rest _ _ _) (by decide) (fun v h1 q => ?_)
    obtain ⟨rfl, rfl⟩ := q
    refine px_PW.callV kt_115.2 rfl rfl rfl rfl (nb_setT (q := 3) (by decide) (hw.lim (by decide)) hT.2.1 (zz_remT hM hM6 (Nat.lt_trans (zz_dr_lt _) (by decide)) (Int32.not_le.mp c0)) _) (by decide) (fun v h1 q => ?_)
    obtain ⟨rfl, rfl⟩ := q
    refine px_PW.ret kt_115.2 rfl rfl ?_
    have E : s_chg Z N F = ((upd (upd (upd Z 0 (zz_dz (Z 0))) 0 (zz_dz (zz_dz (Z 0)))) 0 (zz_dz (zz_dz (zz_dz (Z 0))))), N, (va_up (va_up F 0 (upd (F 0) 6 (1 + (i_rem (nI (zz_dr (Z 0))) ((F 0) 1))))) 3 (upd (F 3) ((i_rem (nI (zz_dr (zz_dz (Z 0)))) (N 1))).toNatClampNeg (i_rem (nI (zz_dr (zz_dz (zz_dz (Z 0))))) (((upd (F 0) 6 (1 + (i_rem (nI (zz_dr (Z 0))) ((F 0) 1)))) 0) + 1))))) := if_neg c0
    rw [E]
    exact ⟨rfl, _, _, _, px_sc.rf, rfl⟩
/-- so it is m times by draws -/
def s_chgs (N : Nat → Int32) : Nat → (Nat → Int32) → (Nat → Nat → Int32) → (Nat → Int32) × (Nat → Nat → Int32)
  | 0, Z, F => (Z, F)
  | m + 1, Z, F => s_chgs N m (s_chg Z N F).1 (s_chg Z N F).2.2
theorem s_chg_N (Z N : Nat → Int32) (F : Nat → Nat → Int32) : (s_chg Z N F).2.1 = N := by
  unfold s_chg
  split <;> rfl
theorem cc_chg {Z N : Nat → Int32} {F : Nat → Nat → Int32} (hw : px_cw N) (hT : N 2 = N 1 ∧ N 3 = N 1 ∧ N 4 = N 1) {M : Nat} (hM : N 1 = nI M) (hM6 : M ≤ 6) : px_PM 3 115 [.ref 0] (px_CH Z N F, []) (fun r h' => r = none ∧ h' = (px_CH (s_chg Z N F).1 N (s_chg Z N F).2.2, [])) := by
  refine px_PM.start (nL := 2) (code := pc_115) rfl rfl ?_
  refine px_PW.steps kt_115.2 6 rfl ?_
  refine px_PW.callV kt_115.2 rfl rfl rfl rfl (cc_draw) (by decide) (fun v h1 q => ?_)
  obtain ⟨rfl, rfl⟩ := q
  refine px_PW.steps kt_115.2 2 rfl ?_
  refine px_PW.callV kt_115.2 rfl rfl rfl rfl (cc_is (N := N) hw.1 1 (by decide)) (by decide) (fun v h1 q => ?_)
  obtain ⟨rfl, rfl⟩ := q
  refine px_PW.callS kt_115.2 rfl rfl rfl (cc_rest _ _ _) (by decide) (fun v h1 q => ?_)
  obtain ⟨rfl, rfl⟩ := q
  refine px_PW.steps kt_115.2 1 rfl ?_
  refine px_PW.callV kt_115.2 rfl rfl rfl rfl (nb_setW hw.1 6 (by decide) _) (by decide) (fun v h1 q => ?_)
  obtain ⟨rfl, rfl⟩ := q
  refine px_PW.steps kt_115.2 3 rfl ?_
  refine px_PW.callV kt_115.2 rfl rfl rfl rfl (nb_size (q := 1) (by decide)) (by decide) (fun v h1 q => ?_)
  obtain ⟨rfl, rfl⟩ := q
  refine px_PW.steps kt_115.2 1 rfl ?_
  refine px_PW.br (fun c0 => ?_) (fun c0 => ?_)
  · have c0 : (N 1) ≤ 0 := of_decide_eq_true c0
    refine px_PW.ret kt_115.2 rfl rfl ?_
    have E : s_chg Z N F = ((upd Z 0 (zz_dz (Z 0))), N, (va_up F 0 (upd (F 0) 6 (1 + (i_rem (nI (zz_dr (Z 0))) ((F 0) 1)))))) := if_pos c0
    rw [E]
    exact ⟨rfl, rfl⟩
  · have c0 : ¬ ((N 1) ≤ 0) := of_decide_eq_false c0
    refine px_PW.steps kt_115.2 1 rfl ?_
    refine px_PW.callV kt_115.2 rfl rfl rfl rfl (cc_draw) (by decide) (fun v h1 q => ?_)
    obtain ⟨rfl, rfl⟩ := q
    refine px_PW.steps kt_115.2 3 rfl ?_
    refine px_PW.callV kt_115.2 rfl rfl rfl rfl (nb_size (q := 1) (by decide)) (by decide) (fun v h1 q => ?_)
    obtain ⟨rfl, rfl⟩ := q
    refine px_PW.callS kt_115.2 rfl rfl rfl (cc_rest _ _ _) (by decide) (fun v h1 q => ?_)
    obtain ⟨rfl, rfl⟩ := q
    refine px_PW.steps kt_115.2 6 rfl ?_
    refine px_PW.callV kt_115.2 rfl rfl rfl rfl (cc_draw) (by decide) (fun v h1 q => ?_)
    obtain ⟨rfl, rfl⟩ := q
    refine px_PW.steps kt_115.2 2 rfl ?_
    refine px_PW.callV kt_115.2 rfl rfl rfl rfl (cc_is (N := N) hw.1 0 (by decide)) (by decide) (fun v h1 q => ?_)
    obtain ⟨rfl, rfl⟩ := q
    refine px_PW.steps kt_115.2 2 rfl ?_
    refine px_PW.callS kt_115.2 rfl rfl rfl (cc_rest _ _ _) (by decide) (fun v h1 q => ?_)
    obtain ⟨rfl, rfl⟩ := q
    refine px_PW.callV kt_115.2 rfl rfl rfl rfl (nb_setT (q := 3) (by decide) (hw.lim (by decide)) hT.2.1 (zz_remT hM hM6 (Nat.lt_trans (zz_dr_lt _) (by decide)) (Int32.not_le.mp c0)) _) (by decide) (fun v h1 q => ?_)
    obtain ⟨rfl, rfl⟩ := q
    refine px_PW.ret kt_115.2 rfl rfl ?_
    have E : s_chg Z N F = ((upd (upd (upd Z 0 (zz_dz (Z 0))) 0 (zz_dz (zz_dz (Z 0)))) 0 (zz_dz (zz_dz (zz_dz (Z 0))))), N, (va_up (va_up F 0 (upd (F 0) 6 (1 + (i_rem (nI (zz_dr (Z 0))) ((F 0) 1))))) 3 (upd (F 3) ((i_rem (nI (zz_dr (zz_dz (Z 0)))) (N 1))).toNatClampNeg (i_rem (nI (zz_dr (zz_dz (zz_dz (Z 0))))) (((upd (F 0) 6 (1 + (i_rem (nI (zz_dr (Z 0))) ((F 0) 1)))) 0) + 1))))) := if_neg c0
    rw [E]
    exact ⟨rfl, rfl⟩
theorem c_loose_loop {N : Nat → Int32} (hw : px_cw N) (hT : N 2 = N 1 ∧ N 3 = N 1 ∧ N 4 = N 1) {M : Nat} (hM : N 1 = nI M) (hM6 : M ≤ 6) {n : Nat} (hn : n ≤ 40) {Q : Option Value → px_H → Prop} : ∀ (m k : Nat) (Z : Nat → Int32) (F : Nat → Nat → Int32), k + m = n → (px_PW 3 pc_65 Q 34 [some (.ref 0), some (.int (nI n)), some (.int (nI n))] [] (px_CH (s_chgs N m Z F).1 N (s_chgs N m Z F).2, [])) → px_PW 3 pc_65 Q 19 [some (.ref 0), some (.int (nI n)), some (.int (nI k))] [] (px_CH Z N F, [])
  | m, k, Z, F, hk, H => by
    refine px_PW.steps kt_65.2 3 rfl ?_
    refine px_PW.br (fun c0 => ?_) (fun c0 => ?_)
    · have c0 : (nI n) ≤ (nI k) := of_decide_eq_true c0
      have c0 : n ≤ k := by exact (nI_leI (a := n) (b := k) (by omega) (by omega)).mp c0
      obtain rfl : m = 0 := by omega
      obtain rfl : k = n := by omega
      exact H
    · have c0 : ¬ ((nI n) ≤ (nI k)) := of_decide_eq_false c0
      have c0 : ¬ (n ≤ k) := fun q => c0 (by exact (nI_leI (a := n) (b := k) (by omega) (by omega)).mpr q)
      obtain ⟨m2, rfl⟩ : ∃ m2, m = m2 + 1 := ⟨m - 1, by omega⟩
      refine px_PW.steps kt_65.2 1 rfl ?_
      refine px_PW.callV kt_65.2 rfl rfl rfl rfl (cc_chg hw hT hM hM6) (by decide) (fun v h1 q => ?_)
      obtain ⟨rfl, rfl⟩ := q
      refine px_PW.steps kt_65.2 2 rfl ?_
      have g := c_loose_loop hw hT hM hM6 hn (Q := Q) m2 (k + 1) _ _ (by omega) H
      rw [nI_succ] at g
      exact g
theorem px_in40 {n : Int32} (a : ¬ (n < 1)) (b : n ≤ 40) : n = nI n.toNatClampNeg ∧ n.toNatClampNeg ≤ 40 := by
  have h0 : ¬ n < 0 := fun q => a (Int32.lt_trans q (by decide))
  obtain ⟨k, hk, rfl⟩ := nI_of h0
  rw [show (40 : Int32) = nI 40 from rfl, nI_leI (by omega) (by omega)] at b
  rw [nI_clamp (by omega)]
  exact ⟨rfl, b⟩
def s_loose (Z N : Nat → Int32) (F : Nat → Nat → Int32) (n : Int32) : Int32 × (Nat → Int32) × (Nat → Int32) × (Nat → Nat → Int32) := (if n < 1 then ((-1000000000 - 1), Z, N, F) else (if n ≤ 40 then ((((s_chgs N n.toNatClampNeg Z F).2 0) 6), (s_chgs N n.toNatClampNeg Z F).1, N, (s_chgs N n.toNatClampNeg Z F).2) else ((-1000000000 - 1), Z, N, F)))
theorem kc_loose {Z N : Nat → Int32} {F : Nat → Nat → Int32} (hw : px_cw N) (hT : N 2 = N 1 ∧ N 3 = N 1 ∧ N 4 = N 1) {M : Nat} (hM : N 1 = nI M) (hM6 : M ≤ 6) (n : Int32) : px_PM 4 65 [.ref 0, .int n] (px_CH Z N F, []) (fun r h' => r = some (.int (s_loose Z N F n).1) ∧ ∃ Z' N' F', px_sc (s_loose Z N F n).2.1 (s_loose Z N F n).2.2.1 (s_loose Z N F n).2.2.2 Z' N' F' ∧ h' = (px_CH Z' N' F', [])) := by
  refine px_PM.start (nL := 3) (code := pc_65) rfl rfl ?_
  refine px_PW.steps kt_65.2 3 rfl ?_
  refine px_PW.br (fun c0 => ?_) (fun c0 => ?_)
  · have c0 : n < 1 := of_decide_eq_true c0
    refine px_PW.steps kt_65.2 2 rfl ?_
    refine px_PW.callV kt_65.2 rfl rfl rfl rfl (cc_error hw.2.2.1 1 (by decide)) (by decide) (fun v h1 q => ?_)
    obtain ⟨rfl, rfl⟩ := q
    refine px_PW.ret kt_65.2 rfl rfl ?_
    have E : s_loose Z N F n = ((-1000000000 - 1), Z, N, F) := if_pos c0
    rw [E]
    exact ⟨rfl, _, _, _, px_sc.err, rfl⟩
  · have c0 : ¬ (n < 1) := of_decide_eq_false c0
    refine px_PW.steps kt_65.2 3 rfl ?_
    refine px_PW.br (fun c1 => ?_) (fun c1 => ?_)
    · have c1 : n ≤ 40 := of_decide_eq_true c1
      refine px_PW.steps kt_65.2 2 rfl ?_
      have hn := px_in40 c0 c1
      refine px_PW.lc (lv' := [some (.ref 0), some (.int (nI n.toNatClampNeg)), some (.int (nI 0))]) (by rw [← hn.1]; rfl) ?_
      refine c_loose_loop hw hT hM hM6 hn.2 n.toNatClampNeg 0 Z F (by omega) ?_
      refine px_PW.steps kt_65.2 2 rfl ?_
      refine px_PW.callV kt_65.2 rfl rfl rfl rfl (cc_is (N := N) hw.1 6 (by decide)) (by decide) (fun v h1 q => ?_)
      obtain ⟨rfl, rfl⟩ := q
      refine px_PW.ret kt_65.2 rfl rfl ?_
      have E : s_loose Z N F n = ((((s_chgs N n.toNatClampNeg Z F).2 0) 6), (s_chgs N n.toNatClampNeg Z F).1, N, (s_chgs N n.toNatClampNeg Z F).2) := (if_neg c0).trans (if_pos c1)
      rw [E]
      exact ⟨rfl, _, _, _, px_sc.rf, rfl⟩
    · have c1 : ¬ (n ≤ 40) := of_decide_eq_false c1
      refine px_PW.steps kt_65.2 2 rfl ?_
      refine px_PW.callV kt_65.2 rfl rfl rfl rfl (cc_error hw.2.2.1 1 (by decide)) (by decide) (fun v h1 q => ?_)
      obtain ⟨rfl, rfl⟩ := q
      refine px_PW.ret kt_65.2 rfl rfl ?_
      have E : s_loose Z N F n = ((-1000000000 - 1), Z, N, F) := (if_neg c0).trans (if_neg c1)
      rw [E]
      exact ⟨rfl, _, _, _, px_sc.err, rfl⟩
def s_middle (Z N : Nat → Int32) (F : Nat → Nat → Int32) (what : Int32) : Int32 := (if what < 0 then (-1000000000 - 1) else (if what ≤ 1 then (if what = 0 then (if (i_rem ((((F 0) 0) - ((F 0) 2)) / 2) (((F 0) 1) + ((F 0) 2))) < 1 then ((F 0) 1) else (if (i_rem ((((F 0) 0) - ((F 0) 2)) / 2) (((F 0) 1) + ((F 0) 2))) ≤ ((F 0) 1) then (i_rem ((((F 0) 0) - ((F 0) 2)) / 2) (((F 0) 1) + ((F 0) 2))) else ((F 0) 1))) else (if (i_rem (((((F 0) 0) - ((F 0) 1)) / 2) - ((F 0) 2)) (((F 0) 1) + ((F 0) 2))) < 1 then ((F 0) 1) else (if (i_rem (((((F 0) 0) - ((F 0) 1)) / 2) - ((F 0) 2)) (((F 0) 1) + ((F 0) 2))) ≤ ((F 0) 1) then (i_rem (((((F 0) 0) - ((F 0) 1)) / 2) - ((F 0) 2)) (((F 0) 1) + ((F 0) 2))) else ((F 0) 1)))) else (-1000000000 - 1)))
theorem kc_middle {Z N : Nat → Int32} {F : Nat → Nat → Int32} (hw : px_cw N) (what : Int32) : px_PM 3 70 [.ref 0, .int what] (px_CH Z N F, []) (fun r h' => r = some (.int (s_middle Z N F what)) ∧ ∃ Z' N' F', px_sc Z N F Z' N' F' ∧ h' = (px_CH Z' N' F', [])) := by
  refine px_PM.start (nL := 4) (code := pc_70) rfl rfl ?_
  refine px_PW.steps kt_70.2 2 rfl ?_
  refine px_PW.br (fun c0 => ?_) (fun c0 => ?_)
  · have c0 : what < 0 := of_decide_eq_true c0
    refine px_PW.steps kt_70.2 2 rfl ?_
    refine px_PW.callV kt_70.2 rfl rfl rfl rfl (cc_error hw.2.2.1 1 (by decide)) (by decide) (fun v h1 q => ?_)
    obtain ⟨rfl, rfl⟩ := q
    refine px_PW.ret kt_70.2 rfl rfl ?_
    have E : s_middle Z N F what = (-1000000000 - 1) := if_pos c0
    rw [E]
    exact ⟨rfl, _, _, _, px_sc.err, rfl⟩
  · have c0 : ¬ (what < 0) := of_decide_eq_false c0
    refine px_PW.steps kt_70.2 3 rfl ?_
    refine px_PW.br (fun c1 => ?_) (fun c1 => ?_)
    · have c1 : what ≤ 1 := of_decide_eq_true c1
      refine px_PW.steps kt_70.2 2 rfl ?_
      refine px_PW.br (fun c2 => ?_) (fun c2 => ?_)
      · have c2 : ¬ (what = 0) := of_decide_eq_false (px_nt c2)
        refine px_PW.steps kt_70.2 2 rfl ?_
        refine px_PW.callV kt_70.2 rfl rfl rfl rfl (cc_is (N := N) hw.1 0 (by decide)) (by decide) (fun v h1 q => ?_)
        obtain ⟨rfl, rfl⟩ := q
        refine px_PW.steps kt_70.2 2 rfl ?_
        refine px_PW.callV kt_70.2 rfl rfl rfl rfl (cc_is (N := N) hw.1 1 (by decide)) (by decide) (fun v h1 q => ?_)
        obtain ⟨rfl, rfl⟩ := q
        refine px_PW.steps kt_70.2 5 rfl ?_
        refine px_PW.callV kt_70.2 rfl rfl rfl rfl (cc_is (N := N) hw.1 2 (by decide)) (by decide) (fun v h1 q => ?_)
        obtain ⟨rfl, rfl⟩ := q
        refine px_PW.steps kt_70.2 5 rfl ?_
        refine px_PW.callV kt_70.2 rfl rfl rfl rfl (cc_is (N := N) hw.1 1 (by decide)) (by decide) (fun v h1 q => ?_)
        obtain ⟨rfl, rfl⟩ := q
        refine px_PW.steps kt_70.2 2 rfl ?_
        refine px_PW.callV kt_70.2 rfl rfl rfl rfl (cc_is (N := N) hw.1 2 (by decide)) (by decide) (fun v h1 q => ?_)
        obtain ⟨rfl, rfl⟩ := q
        refine px_PW.steps kt_70.2 1 rfl ?_
        refine px_PW.callS kt_70.2 rfl rfl rfl (cc_rest _ _ _) (by decide) (fun v h1 q => ?_)
        obtain ⟨rfl, rfl⟩ := q
        refine px_PW.steps kt_70.2 4 rfl ?_
        refine px_PW.br (fun c3 => ?_) (fun c3 => ?_)
        · have c3 : (i_rem (((((F 0) 0) - ((F 0) 1)) / 2) - ((F 0) 2)) (((F 0) 1) + ((F 0) 2))) < 1 := of_decide_eq_true c3
          refine px_PW.steps kt_70.2 2 rfl ?_
          refine px_PW.callV kt_70.2 rfl rfl rfl rfl (cc_is (N := N) hw.1 1 (by decide)) (by decide) (fun v h1 q => ?_)
          obtain ⟨rfl, rfl⟩ := q
          refine px_PW.steps kt_70.2 1 rfl ?_
          refine px_PW.ret kt_70.2 rfl rfl ?_
          have E : s_middle Z N F what = ((F 0) 1) := (if_neg c0).trans ((if_pos c1).trans ((if_neg c2).trans (if_pos c3)))
          rw [E]
          exact ⟨rfl, _, _, _, px_sc.rf, rfl⟩
        · have c3 : ¬ ((i_rem (((((F 0) 0) - ((F 0) 1)) / 2) - ((F 0) 2)) (((F 0) 1) + ((F 0) 2))) < 1) := of_decide_eq_false c3
          refine px_PW.steps kt_70.2 3 rfl ?_
          refine px_PW.callV kt_70.2 rfl rfl rfl rfl (cc_is (N := N) hw.1 1 (by decide)) (by decide) (fun v h1 q => ?_)
          obtain ⟨rfl, rfl⟩ := q
          refine px_PW.steps kt_70.2 1 rfl ?_
          refine px_PW.br (fun c4 => ?_) (fun c4 => ?_)
          · have c4 : (i_rem (((((F 0) 0) - ((F 0) 1)) / 2) - ((F 0) 2)) (((F 0) 1) + ((F 0) 2))) ≤ ((F 0) 1) := of_decide_eq_true c4
            refine px_PW.steps kt_70.2 1 rfl ?_
            refine px_PW.ret kt_70.2 rfl rfl ?_
            have E : s_middle Z N F what = (i_rem (((((F 0) 0) - ((F 0) 1)) / 2) - ((F 0) 2)) (((F 0) 1) + ((F 0) 2))) := (if_neg c0).trans ((if_pos c1).trans ((if_neg c2).trans ((if_neg c3).trans (if_pos c4))))
            rw [E]
            exact ⟨rfl, _, _, _, px_sc.rf, rfl⟩
          · have c4 : ¬ ((i_rem (((((F 0) 0) - ((F 0) 1)) / 2) - ((F 0) 2)) (((F 0) 1) + ((F 0) 2))) ≤ ((F 0) 1)) := of_decide_eq_false c4
            refine px_PW.steps kt_70.2 2 rfl ?_
            refine px_PW.callV kt_70.2 rfl rfl rfl rfl (cc_is (N := N) hw.1 1 (by decide)) (by decide) (fun v h1 q => ?_)
            obtain ⟨rfl, rfl⟩ := q
            refine px_PW.steps kt_70.2 1 rfl ?_
            refine px_PW.ret kt_70.2 rfl rfl ?_
            have E : s_middle Z N F what = ((F 0) 1) := (if_neg c0).trans ((if_pos c1).trans ((if_neg c2).trans ((if_neg c3).trans (if_neg c4))))
            rw [E]
            exact ⟨rfl, _, _, _, px_sc.rf, rfl⟩
      · have c2 : what = 0 := of_decide_eq_true (px_nf c2)
        refine px_PW.steps kt_70.2 2 rfl ?_
        refine px_PW.callV kt_70.2 rfl rfl rfl rfl (cc_is (N := N) hw.1 0 (by decide)) (by decide) (fun v h1 q => ?_)
        obtain ⟨rfl, rfl⟩ := q
        refine px_PW.steps kt_70.2 2 rfl ?_
        refine px_PW.callV kt_70.2 rfl rfl rfl rfl (cc_is (N := N) hw.1 2 (by decide)) (by decide) (fun v h1 q => ?_)
        obtain ⟨rfl, rfl⟩ := q
        refine px_PW.steps kt_70.2 8 rfl ?_
        refine px_PW.callV kt_70.2 rfl rfl rfl rfl (cc_is (N := N) hw.1 1 (by decide)) (by decide) (fun v h1 q => ?_)
        obtain ⟨rfl, rfl⟩ := q
        refine px_PW.steps kt_70.2 2 rfl ?_
        refine px_PW.callV kt_70.2 rfl rfl rfl rfl (cc_is (N := N) hw.1 2 (by decide)) (by decide) (fun v h1 q => ?_)
        obtain ⟨rfl, rfl⟩ := q
        refine px_PW.steps kt_70.2 1 rfl ?_
        refine px_PW.callS kt_70.2 rfl rfl rfl (cc_rest _ _ _) (by decide) (fun v h1 q => ?_)
        obtain ⟨rfl, rfl⟩ := q
        refine px_PW.steps kt_70.2 4 rfl ?_
        refine px_PW.br (fun c5 => ?_) (fun c5 => ?_)
        · have c5 : (i_rem ((((F 0) 0) - ((F 0) 2)) / 2) (((F 0) 1) + ((F 0) 2))) < 1 := of_decide_eq_true c5
          refine px_PW.steps kt_70.2 2 rfl ?_
          refine px_PW.callV kt_70.2 rfl rfl rfl rfl (cc_is (N := N) hw.1 1 (by decide)) (by decide) (fun v h1 q => ?_)
          obtain ⟨rfl, rfl⟩ := q
          refine px_PW.steps kt_70.2 1 rfl ?_
          refine px_PW.ret kt_70.2 rfl rfl ?_
          have E : s_middle Z N F what = ((F 0) 1) := (if_neg c0).trans ((if_pos c1).trans ((if_pos c2).trans (if_pos c5)))
          rw [E]
          exact ⟨rfl, _, _, _, px_sc.rf, rfl⟩
        · have c5 : ¬ ((i_rem ((((F 0) 0) - ((F 0) 2)) / 2) (((F 0) 1) + ((F 0) 2))) < 1) := of_decide_eq_false c5
          refine px_PW.steps kt_70.2 3 rfl ?_
          refine px_PW.callV kt_70.2 rfl rfl rfl rfl (cc_is (N := N) hw.1 1 (by decide)) (by decide) (fun v h1 q => ?_)
          obtain ⟨rfl, rfl⟩ := q
          refine px_PW.steps kt_70.2 1 rfl ?_
          refine px_PW.br (fun c6 => ?_) (fun c6 => ?_)
          · have c6 : (i_rem ((((F 0) 0) - ((F 0) 2)) / 2) (((F 0) 1) + ((F 0) 2))) ≤ ((F 0) 1) := of_decide_eq_true c6
            refine px_PW.steps kt_70.2 1 rfl ?_
            refine px_PW.ret kt_70.2 rfl rfl ?_
            have E : s_middle Z N F what = (i_rem ((((F 0) 0) - ((F 0) 2)) / 2) (((F 0) 1) + ((F 0) 2))) := (if_neg c0).trans ((if_pos c1).trans ((if_pos c2).trans ((if_neg c5).trans (if_pos c6))))
            rw [E]
            exact ⟨rfl, _, _, _, px_sc.rf, rfl⟩
          · have c6 : ¬ ((i_rem ((((F 0) 0) - ((F 0) 2)) / 2) (((F 0) 1) + ((F 0) 2))) ≤ ((F 0) 1)) := of_decide_eq_false c6
            refine px_PW.steps kt_70.2 2 rfl ?_
            refine px_PW.callV kt_70.2 rfl rfl rfl rfl (cc_is (N := N) hw.1 1 (by decide)) (by decide) (fun v h1 q => ?_)
            obtain ⟨rfl, rfl⟩ := q
            refine px_PW.steps kt_70.2 1 rfl ?_
            refine px_PW.ret kt_70.2 rfl rfl ?_
            have E : s_middle Z N F what = ((F 0) 1) := (if_neg c0).trans ((if_pos c1).trans ((if_pos c2).trans ((if_neg c5).trans (if_neg c6))))
            rw [E]
            exact ⟨rfl, _, _, _, px_sc.rf, rfl⟩
    · have c1 : ¬ (what ≤ 1) := of_decide_eq_false c1
      refine px_PW.steps kt_70.2 2 rfl ?_
      refine px_PW.callV kt_70.2 rfl rfl rfl rfl (cc_error hw.2.2.1 1 (by decide)) (by decide) (fun v h1 q => ?_)
      obtain ⟨rfl, rfl⟩ := q
      refine px_PW.ret kt_70.2 rfl rfl ?_
      have E : s_middle Z N F what = (-1000000000 - 1) := (if_neg c0).trans (if_neg c1)
      rw [E]
      exact ⟨rfl, _, _, _, px_sc.err, rfl⟩
end
