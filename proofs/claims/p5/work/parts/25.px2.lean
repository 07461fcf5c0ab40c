theorem px_PW.at {d : Nat} {code : Nat → Option px_A} {Q : Option Value → px_H → Prop} {pc pc' : Nat} {lv : px_L} {st : List Value} {h : px_H} (e : pc = pc') (k : px_PW d code Q pc' lv st h) : px_PW d code Q pc lv st h := by rw [e]; exact k
theorem px_b1z {P : Prop} {i : Decidable P} (h : @ite Int32 P i 1 0 = 0) : ¬ P := fun q => by rw [if_pos q] at h; exact absurd h (by decide)
theorem px_b1n {P : Prop} {i : Decidable P} (h : ¬ (@ite Int32 P i 1 0 = 0)) : P := Decidable.byContradiction (fun q => h (if_neg q))
theorem px_b0z {P : Prop} {i : Decidable P} (h : @ite Int32 P i 0 1 = 0) : P := Decidable.byContradiction (fun q => by rw [if_neg q] at h; exact absurd h (by decide))
theorem px_b0n {P : Prop} {i : Decidable P} (h : ¬ (@ite Int32 P i 0 1 = 0)) : ¬ P := fun q => h (if_pos q)
theorem px_zb1 {P : Prop} {i : Decidable P} : ((@ite Int32 P i 1 0) == 0 || (@ite Int32 P i 1 0) == 1) = true := by split <;> rfl
theorem px_zb0 {P : Prop} {i : Decidable P} : ((@ite Int32 P i 0 1) == 0 || (@ite Int32 P i 0 1) == 1) = true := by split <;> rfl
theorem px_PW.retB {d : Nat} {code : Nat → Option px_A} (hT : px_frT code) {Q : Option Value → px_H → Prop} {pc : Nat} {lv : px_L} {x : Int32} {h : px_H} (hc : code pc = some px_zret) (hx : (x == 0 || x == 1) = true) (hQ : Q (some (.int x)) h) : px_PW d code Q pc lv [.int x] h := by
  refine px_PW.ret hT hc ?_ hQ
  unfold px_zret
  dsimp only
  rw [hx]
  rfl
theorem px_i_of {x y : Int32} {k : Int} (h : x.toInt = k) (hk : y.toInt = k) : x = y := Int32.toInt_inj.mp (h.trans hk.symm)
theorem px_sw_d {lo : Int} {ts : List Nat} {d : Nat} {x : Int} (h : ∀ y : Int, lo ≤ y → y < lo + ts.length → ¬ (x = y) ∨ px_nth ts (y - lo).toNat = some d) : px_sw lo ts d x = d := by
  unfold px_sw
  by_cases c : x < lo
  · rw [decide_eq_true c]; rfl
  · rw [decide_eq_false c]
    have nn : ∀ (l : List Nat) (n : Nat), l.length ≤ n → px_nth l n = none := by
      intro l
      induction l with
      | nil => intro n _; rfl
      | cons a r ih =>
        intro n hn
        cases n with
        | zero => simp at hn
        | succ n => exact ih n (by simpa using hn)
    by_cases c2 : x < lo + ts.length
    · rcases h x (Int.not_lt.mp c) c2 with h1 | h1
      · exact absurd rfl h1
      · rw [h1]; rfl
    · rw [nn ts _ (by omega)]; rfl
theorem px_inbN {n L : Nat} (h : n < L) (hL : L ≤ 400) : px_inb (nI n) L = true := by
  unfold px_inb
  rw [decide_eq_true (nI_pos' (by omega)), Bool.true_and, nI_clamp (by omega), px_blt]
  exact h
/-- a row of numbers read at a place known as a natural number -/
theorem px_PW.aldN {d : Nat} {code : Nat → Option px_A} (hT : px_frT code) {Q : Option Value → px_H → Prop} {pc a L n : Nat} {i : Int32} {f : Nat → Int32} {lv : px_L} {r : List Value} {h : px_H} (hc : code pc = some px_iald) (ha : px_arr h a = some (L, f)) (hi : i = nI n) (hn : n < L) (k : px_PW d code Q (pc + 1) lv (.int (f n) :: r) h) (hL : L ≤ 400 := by decide) : px_PW d code Q pc lv (.int i :: .ref a :: r) h := by
  subst hi
  refine px_PW.ald hT hc ha (px_inbN hn hL) ?_
  rw [nI_clamp (by omega)]
  exact k
theorem px_PW.astN {d : Nat} {code : Nat → Option px_A} (hT : px_frT code) {Q : Option Value → px_H → Prop} {pc a L n : Nat} {i x : Int32} {f : Nat → Int32} {lv : px_L} {r : List Value} {h : px_H} (hc : code pc = some px_iast) (ha : px_arr h a = some (L, f)) (hi : i = nI n) (hn : n < L) (k : px_PW d code Q (pc + 1) lv r (px_put h a (.inl (0, L, .inl (upd f n x))))) (hL : L ≤ 400 := by decide) : px_PW d code Q pc lv (.int x :: .int i :: .ref a :: r) h := by
  subst hi
  refine px_PW.ast hT hc ha (px_inbN hn hL) ?_
  rw [nI_clamp (by omega)]
  exact k
theorem mo_0 {d : Nat} {code : Nat → Option px_A} (hT : px_frT code) {Q : Option Value → px_H → Prop} {pc : Nat} {x : Int32} {lv : px_L} {r : List Value} {Z : Nat → Int32} {F : Nat → Nat → Int32} (hc : code pc = some (px_putf true 8 2)) (kk : px_PW d code Q (pc + 3) lv r ([], px_MH (upd Z 0 x) F)) : px_PW d code Q pc lv (.int x :: .ref 1000 :: r) ([], px_MH Z F) := px_PW.putf hT hc rfl rfl kk
theorem mo_1 {d : Nat} {code : Nat → Option px_A} (hT : px_frT code) {Q : Option Value → px_H → Prop} {pc : Nat} {x : Int32} {lv : px_L} {r : List Value} {Z : Nat → Int32} {F : Nat → Nat → Int32} (hc : code pc = some (px_putf true 8 6)) (kk : px_PW d code Q (pc + 3) lv r ([], px_MH (upd Z 1 x) F)) : px_PW d code Q pc lv (.int x :: .ref 1000 :: r) ([], px_MH Z F) := px_PW.putf hT hc rfl rfl kk
theorem mo_2 {d : Nat} {code : Nat → Option px_A} (hT : px_frT code) {Q : Option Value → px_H → Prop} {pc : Nat} {x : Int32} {lv : px_L} {r : List Value} {Z : Nat → Int32} {F : Nat → Nat → Int32} (hc : code pc = some (px_putf true 8 7)) (kk : px_PW d code Q (pc + 3) lv r ([], px_MH (upd Z 2 x) F)) : px_PW d code Q pc lv (.int x :: .ref 1000 :: r) ([], px_MH Z F) := px_PW.putf hT hc rfl rfl kk
theorem mo_3 {d : Nat} {code : Nat → Option px_A} (hT : px_frT code) {Q : Option Value → px_H → Prop} {pc : Nat} {x : Int32} {lv : px_L} {r : List Value} {Z : Nat → Int32} {F : Nat → Nat → Int32} (hc : code pc = some (px_putf true 8 8)) (kk : px_PW d code Q (pc + 3) lv r ([], px_MH (upd Z 3 x) F)) : px_PW d code Q pc lv (.int x :: .ref 1000 :: r) ([], px_MH Z F) := px_PW.putf hT hc rfl rfl kk
theorem mo_4 {d : Nat} {code : Nat → Option px_A} (hT : px_frT code) {Q : Option Value → px_H → Prop} {pc : Nat} {x : Int32} {lv : px_L} {r : List Value} {Z : Nat → Int32} {F : Nat → Nat → Int32} (hc : code pc = some (px_putf true 8 9)) (kk : px_PW d code Q (pc + 3) lv r ([], px_MH (upd Z 4 x) F)) : px_PW d code Q pc lv (.int x :: .ref 1000 :: r) ([], px_MH Z F) := px_PW.putf hT hc rfl rfl kk
theorem mo_5 {d : Nat} {code : Nat → Option px_A} (hT : px_frT code) {Q : Option Value → px_H → Prop} {pc : Nat} {x : Int32} {lv : px_L} {r : List Value} {Z : Nat → Int32} {F : Nat → Nat → Int32} (hc : code pc = some (px_putf true 8 15)) (kk : px_PW d code Q (pc + 3) lv r ([], px_MH (upd Z 5 x) F)) : px_PW d code Q pc lv (.int x :: .ref 1000 :: r) ([], px_MH Z F) := px_PW.putf hT hc rfl rfl kk
theorem mo_6 {d : Nat} {code : Nat → Option px_A} (hT : px_frT code) {Q : Option Value → px_H → Prop} {pc : Nat} {x : Int32} {lv : px_L} {r : List Value} {Z : Nat → Int32} {F : Nat → Nat → Int32} (hc : code pc = some (px_putf true 8 16)) (kk : px_PW d code Q (pc + 3) lv r ([], px_MH (upd Z 6 x) F)) : px_PW d code Q pc lv (.int x :: .ref 1000 :: r) ([], px_MH Z F) := px_PW.putf hT hc rfl rfl kk
theorem mo_7 {d : Nat} {code : Nat → Option px_A} (hT : px_frT code) {Q : Option Value → px_H → Prop} {pc : Nat} {x : Int32} {lv : px_L} {r : List Value} {Z : Nat → Int32} {F : Nat → Nat → Int32} (hc : code pc = some (px_putf true 8 18)) (kk : px_PW d code Q (pc + 3) lv r ([], px_MH (upd Z 7 x) F)) : px_PW d code Q pc lv (.int x :: .ref 1000 :: r) ([], px_MH Z F) := px_PW.putf hT hc rfl rfl kk
theorem mo_8 {d : Nat} {code : Nat → Option px_A} (hT : px_frT code) {Q : Option Value → px_H → Prop} {pc : Nat} {x : Int32} {lv : px_L} {r : List Value} {Z : Nat → Int32} {F : Nat → Nat → Int32} (hx : (x == 0 || x == 1) = true) (hc : code pc = some (px_putf false 8 19)) (kk : px_PW d code Q (pc + 3) lv r ([], px_MH (upd Z 8 x) F)) : px_PW d code Q pc lv (.int x :: .ref 1000 :: r) ([], px_MH Z F) := px_PW.putf hT hc rfl (by rw [Bool.false_or, hx]; rfl) kk
theorem ms_0 {d : Nat} {code : Nat → Option px_A} (hT : px_frT code) {Q : Option Value → px_H → Prop} {pc n : Nat} {i x : Int32} {lv : px_L} {r : List Value} {Z : Nat → Int32} {F : Nat → Nat → Int32} (hc : code pc = some px_iast) (hi : i = nI n) (hn : n < 370) (kk : px_PW d code Q (pc + 1) lv r ([], px_MH Z (va_up F 0 (upd (F 0) n x)))) : px_PW d code Q pc lv (.int x :: .int i :: .ref 1001 :: r) ([], px_MH Z F) := px_PW.astN hT hc rfl hi hn kk
theorem ms_1 {d : Nat} {code : Nat → Option px_A} (hT : px_frT code) {Q : Option Value → px_H → Prop} {pc n : Nat} {i x : Int32} {lv : px_L} {r : List Value} {Z : Nat → Int32} {F : Nat → Nat → Int32} (hc : code pc = some px_iast) (hi : i = nI n) (hn : n < 370) (kk : px_PW d code Q (pc + 1) lv r ([], px_MH Z (va_up F 1 (upd (F 1) n x)))) : px_PW d code Q pc lv (.int x :: .int i :: .ref 1002 :: r) ([], px_MH Z F) := px_PW.astN hT hc rfl hi hn kk
theorem ms_2 {d : Nat} {code : Nat → Option px_A} (hT : px_frT code) {Q : Option Value → px_H → Prop} {pc n : Nat} {i x : Int32} {lv : px_L} {r : List Value} {Z : Nat → Int32} {F : Nat → Nat → Int32} (hc : code pc = some px_iast) (hi : i = nI n) (hn : n < 7) (kk : px_PW d code Q (pc + 1) lv r ([], px_MH Z (va_up F 2 (upd (F 2) n x)))) : px_PW d code Q pc lv (.int x :: .int i :: .ref 1003 :: r) ([], px_MH Z F) := px_PW.astN hT hc rfl hi hn kk
theorem ms_3 {d : Nat} {code : Nat → Option px_A} (hT : px_frT code) {Q : Option Value → px_H → Prop} {pc n : Nat} {i x : Int32} {lv : px_L} {r : List Value} {Z : Nat → Int32} {F : Nat → Nat → Int32} (hc : code pc = some px_iast) (hi : i = nI n) (hn : n < 6) (kk : px_PW d code Q (pc + 1) lv r ([], px_MH Z (va_up F 3 (upd (F 3) n x)))) : px_PW d code Q pc lv (.int x :: .int i :: .ref 1004 :: r) ([], px_MH Z F) := px_PW.astN hT hc rfl hi hn kk
theorem ms_4 {d : Nat} {code : Nat → Option px_A} (hT : px_frT code) {Q : Option Value → px_H → Prop} {pc n : Nat} {i x : Int32} {lv : px_L} {r : List Value} {Z : Nat → Int32} {F : Nat → Nat → Int32} (hc : code pc = some px_iast) (hi : i = nI n) (hn : n < 6) (kk : px_PW d code Q (pc + 1) lv r ([], px_MH Z (va_up F 4 (upd (F 4) n x)))) : px_PW d code Q pc lv (.int x :: .int i :: .ref 1005 :: r) ([], px_MH Z F) := px_PW.astN hT hc rfl hi hn kk
theorem ms_5 {d : Nat} {code : Nat → Option px_A} (hT : px_frT code) {Q : Option Value → px_H → Prop} {pc n : Nat} {i x : Int32} {lv : px_L} {r : List Value} {Z : Nat → Int32} {F : Nat → Nat → Int32} (hc : code pc = some px_iast) (hi : i = nI n) (hn : n < 124) (kk : px_PW d code Q (pc + 1) lv r ([], px_MH Z (va_up F 5 (upd (F 5) n x)))) : px_PW d code Q pc lv (.int x :: .int i :: .ref 1006 :: r) ([], px_MH Z F) := px_PW.astN hT hc rfl hi hn kk
theorem ms_6 {d : Nat} {code : Nat → Option px_A} (hT : px_frT code) {Q : Option Value → px_H → Prop} {pc n : Nat} {i x : Int32} {lv : px_L} {r : List Value} {Z : Nat → Int32} {F : Nat → Nat → Int32} (hc : code pc = some px_iast) (hi : i = nI n) (hn : n < 128) (kk : px_PW d code Q (pc + 1) lv r ([], px_MH Z (va_up F 6 (upd (F 6) n x)))) : px_PW d code Q pc lv (.int x :: .int i :: .ref 1007 :: r) ([], px_MH Z F) := px_PW.astN hT hc rfl hi hn kk
theorem ms_7 {d : Nat} {code : Nat → Option px_A} (hT : px_frT code) {Q : Option Value → px_H → Prop} {pc n : Nat} {i x : Int32} {lv : px_L} {r : List Value} {Z : Nat → Int32} {F : Nat → Nat → Int32} (hc : code pc = some px_iast) (hi : i = nI n) (hn : n < 64) (kk : px_PW d code Q (pc + 1) lv r ([], px_MH Z (va_up F 7 (upd (F 7) n x)))) : px_PW d code Q pc lv (.int x :: .int i :: .ref 1008 :: r) ([], px_MH Z F) := px_PW.astN hT hc rfl hi hn kk
theorem ms_8 {d : Nat} {code : Nat → Option px_A} (hT : px_frT code) {Q : Option Value → px_H → Prop} {pc n : Nat} {i x : Int32} {lv : px_L} {r : List Value} {Z : Nat → Int32} {F : Nat → Nat → Int32} (hc : code pc = some px_iast) (hi : i = nI n) (hn : n < 100) (kk : px_PW d code Q (pc + 1) lv r ([], px_MH Z (va_up F 8 (upd (F 8) n x)))) : px_PW d code Q pc lv (.int x :: .int i :: .ref 1009 :: r) ([], px_MH Z F) := px_PW.astN hT hc rfl hi hn kk
theorem ms_9 {d : Nat} {code : Nat → Option px_A} (hT : px_frT code) {Q : Option Value → px_H → Prop} {pc n : Nat} {i x : Int32} {lv : px_L} {r : List Value} {Z : Nat → Int32} {F : Nat → Nat → Int32} (hc : code pc = some px_iast) (hi : i = nI n) (hn : n < 100) (kk : px_PW d code Q (pc + 1) lv r ([], px_MH Z (va_up F 9 (upd (F 9) n x)))) : px_PW d code Q pc lv (.int x :: .int i :: .ref 1010 :: r) ([], px_MH Z F) := px_PW.astN hT hc rfl hi hn kk
theorem ms_10 {d : Nat} {code : Nat → Option px_A} (hT : px_frT code) {Q : Option Value → px_H → Prop} {pc n : Nat} {i x : Int32} {lv : px_L} {r : List Value} {Z : Nat → Int32} {F : Nat → Nat → Int32} (hc : code pc = some px_iast) (hi : i = nI n) (hn : n < 30) (kk : px_PW d code Q (pc + 1) lv r ([], px_MH Z (va_up F 10 (upd (F 10) n x)))) : px_PW d code Q pc lv (.int x :: .int i :: .ref 1011 :: r) ([], px_MH Z F) := px_PW.astN hT hc rfl hi hn kk
theorem ms_11 {d : Nat} {code : Nat → Option px_A} (hT : px_frT code) {Q : Option Value → px_H → Prop} {pc n : Nat} {i x : Int32} {lv : px_L} {r : List Value} {Z : Nat → Int32} {F : Nat → Nat → Int32} (hc : code pc = some px_iast) (hi : i = nI n) (hn : n < 4) (kk : px_PW d code Q (pc + 1) lv r ([], px_MH Z (va_up F 11 (upd (F 11) n x)))) : px_PW d code Q pc lv (.int x :: .int i :: .ref 1012 :: r) ([], px_MH Z F) := px_PW.astN hT hc rfl hi hn kk
theorem ms_12 {d : Nat} {code : Nat → Option px_A} (hT : px_frT code) {Q : Option Value → px_H → Prop} {pc n : Nat} {i x : Int32} {lv : px_L} {r : List Value} {Z : Nat → Int32} {F : Nat → Nat → Int32} (hc : code pc = some px_iast) (hi : i = nI n) (hn : n < 4) (kk : px_PW d code Q (pc + 1) lv r ([], px_MH Z (va_up F 12 (upd (F 12) n x)))) : px_PW d code Q pc lv (.int x :: .int i :: .ref 1013 :: r) ([], px_MH Z F) := px_PW.astN hT hc rfl hi hn kk
theorem ms_13 {d : Nat} {code : Nat → Option px_A} (hT : px_frT code) {Q : Option Value → px_H → Prop} {pc n : Nat} {i x : Int32} {lv : px_L} {r : List Value} {Z : Nat → Int32} {F : Nat → Nat → Int32} (hc : code pc = some px_iast) (hi : i = nI n) (hn : n < 96) (kk : px_PW d code Q (pc + 1) lv r ([], px_MH Z (va_up F 13 (upd (F 13) n x)))) : px_PW d code Q pc lv (.int x :: .int i :: .ref 1014 :: r) ([], px_MH Z F) := px_PW.astN hT hc rfl hi hn kk
theorem ms_14 {d : Nat} {code : Nat → Option px_A} (hT : px_frT code) {Q : Option Value → px_H → Prop} {pc n : Nat} {i x : Int32} {lv : px_L} {r : List Value} {Z : Nat → Int32} {F : Nat → Nat → Int32} (hc : code pc = some px_iast) (hi : i = nI n) (hn : n < 24) (kk : px_PW d code Q (pc + 1) lv r ([], px_MH Z (va_up F 14 (upd (F 14) n x)))) : px_PW d code Q pc lv (.int x :: .int i :: .ref 1015 :: r) ([], px_MH Z F) := px_PW.astN hT hc rfl hi hn kk
/-- the class's half is in order: the sizes of its rows -/
def px_cw (N : Nat → Int32) : Prop := N 0 = 7 ∧ N 9 = 7 ∧ N 18 = 7 ∧ ∀ q : Nat, q < 27 → 0 ≤ N q ∧ (N q).toInt ≤ px_lim q
theorem px_cw.lim {N : Nat → Int32} (h : px_cw N) {q : Nat} (hq : q < 27) : (N q).toInt ≤ px_lim q := (h.2.2.2 q hq).2
theorem px_cw.nn {N : Nat → Int32} (h : px_cw N) {q : Nat} (hq : q < 27) : 0 ≤ N q := (h.2.2.2 q hq).1
/-- the same but for scratch: what a call lays, reads, reckons, traces, and its ERRORS -/
def px_sc (Z N : Nat → Int32) (F : Nat → Nat → Int32) (Z' N' : Nat → Int32) (F' : Nat → Nat → Int32) : Prop := (∀ i : Nat, ¬ (6 ≤ i ∧ i ≤ 20) → Z' i = Z i) ∧ (∀ q : Nat, ¬ (23 ≤ q ∧ q ≤ 26) → N' q = N q) ∧ (∀ q : Nat, ¬ (q = 18 ∨ (23 ≤ q ∧ q ≤ 26)) → F' q = F q) ∧ (px_cw N → px_cw N')
theorem px_sc.rf {Z N : Nat → Int32} {F : Nat → Nat → Int32} : px_sc Z N F Z N F := ⟨fun _ _ => rfl, fun _ _ => rfl, fun _ _ => rfl, fun h => h⟩
theorem px_sc.tr {Z N Z1 N1 Z2 N2 : Nat → Int32} {F F1 F2 : Nat → Nat → Int32} (h : px_sc Z N F Z1 N1 F1) (h2 : px_sc Z1 N1 F1 Z2 N2 F2) : px_sc Z N F Z2 N2 F2 := ⟨fun i hi => (h2.1 i hi).trans (h.1 i hi), fun i hi => (h2.2.1 i hi).trans (h.2.1 i hi), fun i hi => (h2.2.2.1 i hi).trans (h.2.2.1 i hi), fun q => h2.2.2.2 (h.2.2.2 q)⟩
theorem px_sc.err {Z N : Nat → Int32} {F : Nat → Nat → Int32} {f : Nat → Int32} : px_sc Z N F Z N (va_up F 18 f) := ⟨fun _ _ => rfl, fun _ _ => rfl, fun q hq => px_up_ne F f (fun e => hq (Or.inl e)), fun h => h⟩
theorem px_sc.z {Z N Z' : Nat → Int32} {F : Nat → Nat → Int32} (h : px_same Z Z') : px_sc Z N F Z' N F := ⟨fun i hi => h i (fun q => hi ⟨q.1, by omega⟩), fun _ _ => rfl, fun _ _ => rfl, fun h => h⟩
/-- the reference's half, likewise -/
def px_sm (Z : Nat → Int32) (F : Nat → Nat → Int32) (Z' : Nat → Int32) (F' : Nat → Nat → Int32) : Prop := Z' 0 = Z 0 ∧ (0 ≤ Z 6 ∧ (Z 6).toInt ≤ 30 → 0 ≤ Z' 6 ∧ (Z' 6).toInt ≤ 30) ∧ F' 0 = F 0 ∧ F' 1 = F 1 ∧ F' 3 = F 3 ∧ F' 4 = F 4 ∧ F' 11 = F 11 ∧ F' 12 = F 12 ∧ F' 13 = F 13
theorem px_sm.rf {Z : Nat → Int32} {F : Nat → Nat → Int32} : px_sm Z F Z F := ⟨rfl, fun h => h, rfl, rfl, rfl, rfl, rfl, rfl, rfl⟩
theorem px_sm.tr {Z Z1 Z2 : Nat → Int32} {F F1 F2 : Nat → Nat → Int32} (h : px_sm Z F Z1 F1) (k : px_sm Z1 F1 Z2 F2) : px_sm Z F Z2 F2 := by
  obtain ⟨a0, a1, a2, a3, a4, a5, a6, a7, a8⟩ := h
  obtain ⟨b0, b1, b2, b3, b4, b5, b6, b7, b8⟩ := k
  exact ⟨b0.trans a0, fun q => b1 (a1 q), b2.trans a2, b3.trans a3, b4.trans a4, b5.trans a5, b6.trans a6, b7.trans a7, b8.trans a8⟩
theorem px_sm.err {Z : Nat → Int32} {F : Nat → Nat → Int32} {f : Nat → Int32} : px_sm Z F Z (va_up F 2 f) := ⟨rfl, fun h => h, rfl, rfl, rfl, rfl, rfl, rfl, rfl⟩
theorem px_ge (x : Int32) : (x.toInt < 0) = (x < 0) := by rw [Int32.lt_iff_toInt_lt]; rfl
theorem px_PW.hp {d : Nat} {code : Nat → Option px_A} {Q : Option Value → px_H → Prop} {pc : Nat} {lv : px_L} {st : List Value} {h h' : px_H} (e : h = h') (k : px_PW d code Q pc lv st h') : px_PW d code Q pc lv st h := by rw [e]; exact k
/-- a row whose places from p on, k of them, are g's -/
def zz_pl (g f : Nat → Int32) (p k : Nat) : Nat → Int32 := fun j => if p ≤ j ∧ j < p + k then g (j - p) else f j
theorem zz_pl_0 (g f : Nat → Int32) (p : Nat) : zz_pl g f p 0 = f := by
  funext j
  unfold zz_pl
  rw [if_neg (by omega)]
theorem zz_pl_s (g f : Nat → Int32) (p k : Nat) : upd (zz_pl g f p k) (p + k) (g k) = zz_pl g f p (k + 1) := by
  funext j
  unfold zz_pl upd
  by_cases h : j = p + k
  · subst h
    rw [if_pos rfl, if_pos (by omega), show p + k - p = k by omega]
  · rw [if_neg h]
    show (if p ≤ j ∧ j < p + k then g (j - p) else f j) = _
    by_cases h2 : p ≤ j ∧ j < p + k
    · rw [if_pos h2, if_pos (by omega)]
    · rw [if_neg h2, if_neg (by omega)]
theorem zz_pl_s0 (g f : Nat → Int32) (k : Nat) : upd (zz_pl g f 0 k) k (g k) = zz_pl g f 0 (k + 1) := by
  have h := zz_pl_s g f 0 k
  rw [Nat.zero_add] at h
  exact h
