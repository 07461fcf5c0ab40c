/-! part 49.t1.jdk -/
section
/-! String.indexOf of the two texts of names (66.t1: by hand) -/
theorem px_PW.callK {d d1 : Nat} {code : Nat → Option px_A} (hT : px_frT code) {Q Q1 : Option Value → px_H → Prop} {pc j m b : Nat} {as rest : List Value} {lv : px_L} {st : List Value} {h : px_H} (hc : code pc = some (px_callK j m)) (hp : px_pop (m + 1) st [] = some (.ref b :: as, rest)) (hO : px_isK b = true) (h8 : Nat.ble (px_cat rest) 8 = true) (hM : px_PM d1 j (.ref b :: as) h Q1) (hd : d1 ≤ d)
    (k : ∀ v h1, Q1 v h1 → px_PW d code Q (pc + 3) lv (px_tl v rest) h1) : px_PW d code Q pc lv st h := by
  obtain ⟨n1, v1, h1, e1, q1⟩ := hM
  obtain ⟨n, v, h2, e2, q2⟩ := k v1 h1 q1
  refine ⟨max n1 n + 1, v, h2, ?_, q2⟩
  unfold px_loop
  rw [hc]
  dsimp only
  have e3 : px_callK j m (px_run px_codes d (max n1 n + 1)) pc lv st h = some (.inl (pc + 3, lv, px_tl v1 rest, h1)) := by
    unfold px_callK
    rw [hp]
    dsimp only
    rw [hO, h8, px_mono hd (show n1 ≤ max n1 n + 1 by omega) e1]
    rfl
  rw [e3]
  exact (px_fr_loop (b := none) (X := []) hT (px_codes_fr none [] (Nat.le_refl d) (show n ≤ max n1 n + 1 by omega)) n (max n1 n) (pc + 3) lv (px_tl v1 rest) h1 v h2 (by omega) trivial e2).1
/-- a run over no heap at all -/
def px_ansE (d n j : Nat) (as : List Value) : Option Int32 := match px_run px_codes d n j as ([], []) with
  | some (some (.int x), ([], [])) => some x
  | _ => none
theorem px_PM.of_ansE {d n j : Nat} {as : List Value} {x : Int32} (hr : px_ansE d n j as = some x) (h : px_H) : px_PM d j as h (fun r h' => r = some (.int x) ∧ h' = h) := by
  unfold px_ansE at hr
  split at hr
  · next x' hx =>
    cases hr
    have h1 := (px_codes_fr (some true) h.2 (Nat.le_refl d) (Nat.le_refl n) j as ([], []) _ _ rfl hx).1
    have h2 := (px_codes_fr (some false) h.1 (Nat.le_refl d) (Nat.le_refl n) j as ([], h.2) _ _ rfl h1).1
    exact ⟨n, _, h, h2, rfl, rfl⟩
  · cases hr
/-- where a name stands among the three -/
def t_ix (u : Nat) (c : Int32) : Int32 := if u = 0 then (if c = 99 then 0 else if c = 116 then 1 else if c = 119 then 2 else -1) else (if c = 104 then 0 else if c = 110 then 1 else if c = 107 then 2 else -1)
set_option maxRecDepth 100000 in
theorem jk_low0 : ∀ n : Nat, n < 256 → px_ansE 5 40 207 [.ref 3002, .int (nI n)] = some (t_ix 0 (nI n)) := by decide +kernel
set_option maxRecDepth 100000 in
theorem jk_low1 : ∀ n : Nat, n < 256 → px_ansE 5 40 207 [.ref 3003, .int (nI n)] = some (t_ix 1 (nI n)) := by decide +kernel
theorem jk_lat0 : px_ansE 1 20 209 [.ref 3002] = some 1 := by decide +kernel
theorem jk_lat1 : px_ansE 1 20 209 [.ref 3003] = some 1 := by decide +kernel
theorem jk_len0 : px_ansE 2 20 210 [.ref 3002] = some 3 := by decide +kernel
theorem jk_len1 : px_ansE 2 20 210 [.ref 3003] = some 3 := by decide +kernel
theorem jk_enc {n : Nat} (k1 : 256 ≤ n) (k2 : n < 65536) (h : px_H) : px_PM 1 213 [.int (nI n)] h (fun r h' => r = some (.int 0) ∧ h' = h) := by
  refine px_PM.start (nL := 1) (code := pc_213) rfl rfl ?_
  refine px_PW.steps kt_213.2 2 rfl ?_
  refine px_PW.br (fun c => absurd (of_decide_eq_true c) (nI_pos (by omega))) (fun _ => ?_)
  refine px_PW.steps kt_213.2 3 rfl ?_
  refine px_PW.br (fun _ => ?_) (fun c => absurd (show nI 255 < nI n from nI_lt (by omega) (by omega)) (of_decide_eq_false c))
  refine px_PW.steps kt_213.2 1 rfl ?_
  exact px_PW.ret kt_213.2 rfl rfl ⟨rfl, rfl⟩
theorem jk_lt {n a : Nat} (k1 : 256 ≤ n) (k2 : n < 65536) (h : px_H) : px_PM 2 212 [.ref a, .int (nI n), .int 0, .int 3] h (fun r h' => r = some (.int (-1)) ∧ h' = h) := by
  refine px_PM.start (nL := 4) (code := pc_212) rfl rfl ?_
  refine px_PW.steps kt_212.2 1 rfl ?_
  refine px_PW.callS kt_212.2 rfl rfl rfl (jk_enc k1 k2 h) (by decide) (fun v h1 q => ?_)
  obtain ⟨rfl, rfl⟩ := q
  refine px_PW.steps kt_212.2 2 rfl ?_
  exact px_PW.ret kt_212.2 rfl rfl ⟨rfl, rfl⟩
theorem jk_ix2 {n a : Nat} (ha : px_isK a = true) (hl : px_ansE 1 20 209 [.ref a] = some 1) (hn : px_ansE 2 20 210 [.ref a] = some 3) (k1 : 256 ≤ n) (k2 : n < 65536) (h : px_H) : px_PM 3 208 [.ref a, .int (nI n), .int 0] h (fun r h' => r = some (.int (-1)) ∧ h' = h) := by
  refine px_PM.start (nL := 3) (code := pc_208) rfl rfl ?_
  refine px_PW.steps kt_208.2 1 rfl ?_
  refine px_PW.callK kt_208.2 rfl rfl ha rfl (px_PM.of_ansE hl h) (by decide) (fun v h1 q => ?_)
  obtain ⟨rfl, rfl⟩ := q
  refine px_PW.steps kt_208.2 2 rfl ?_
  refine px_PW.one (pc' := 11) (lv' := px_args 3 [Value.ref a, Value.int (nI n), Value.int 0]) (st' := [.ref (a + 10)]) (h' := _) (act := px_strv) rfl (fun _ => by unfold px_strv; dsimp only; rw [ha]; rfl) ?_ kt_208.2
  refine px_PW.steps kt_208.2 3 rfl ?_
  refine px_PW.callK kt_208.2 rfl rfl ha rfl (px_PM.of_ansE hn _) (by decide) (fun v h1 q => ?_)
  obtain ⟨rfl, rfl⟩ := q
  refine px_PW.callS kt_208.2 rfl rfl rfl (jk_lt k1 k2 _) (by decide) (fun v h1 q => ?_)
  obtain ⟨rfl, rfl⟩ := q
  refine px_PW.steps kt_208.2 1 rfl ?_
  exact px_PW.ret kt_208.2 rfl rfl ⟨rfl, rfl⟩
theorem jk_ix1 {n a : Nat} (ha : px_isK a = true) (hl : px_ansE 1 20 209 [.ref a] = some 1) (hn : px_ansE 2 20 210 [.ref a] = some 3) (k1 : 256 ≤ n) (k2 : n < 65536) (h : px_H) : px_PM 4 207 [.ref a, .int (nI n)] h (fun r h' => r = some (.int (-1)) ∧ h' = h) := by
  refine px_PM.start (nL := 2) (code := pc_207) rfl rfl ?_
  refine px_PW.steps kt_207.2 3 rfl ?_
  refine px_PW.callK kt_207.2 rfl rfl ha rfl (jk_ix2 ha hl hn k1 k2 h) (by decide) (fun v h1 q => ?_)
  obtain ⟨rfl, rfl⟩ := q
  exact px_PW.ret kt_207.2 rfl rfl ⟨rfl, rfl⟩
/-- the text of names of a USE -/
def t_nm (u : Nat) : Nat := if u = 0 then 3002 else 3003
theorem jk_index {u n : Nat} (hu : u ≤ 1) (hn : n < 65536) (h : px_H) : px_PM 5 207 [.ref (t_nm u), .int (nI n)] h (fun r h' => r = some (.int (t_ix u (nI n))) ∧ h' = h) := by
  have far : 256 ≤ n → t_ix u (nI n) = -1 := by
    intro h1
    have ne : ∀ k : Nat, k < 256 → ¬ (nI n = nI k) := fun k hk q => by
      have := (nI_eq (a := n) (b := k) (by omega) (by omega)).mp q
      omega
    unfold t_ix
    rw [if_neg (show ¬ (nI n = (99 : Int32)) from ne 99 (by omega)), if_neg (show ¬ (nI n = (116 : Int32)) from ne 116 (by omega)), if_neg (show ¬ (nI n = (119 : Int32)) from ne 119 (by omega)), if_neg (show ¬ (nI n = (104 : Int32)) from ne 104 (by omega)), if_neg (show ¬ (nI n = (110 : Int32)) from ne 110 (by omega)), if_neg (show ¬ (nI n = (107 : Int32)) from ne 107 (by omega)), ite_self]
  rcases (show u = 0 ∨ u = 1 by omega) with rfl | rfl
  · rcases Nat.lt_or_ge n 256 with c | c
    · exact px_PM.of_ansE (jk_low0 n c) h
    · rw [far c]
      exact (jk_ix1 rfl jk_lat0 jk_len0 c hn h).mono (by decide) (fun _ _ q => q)
  · rcases Nat.lt_or_ge n 256 with c | c
    · exact px_PM.of_ansE (jk_low1 n c) h
    · rw [far c]
      exact (jk_ix1 rfl jk_lat1 jk_len1 c hn h).mono (by decide) (fun _ _ q => q)
theorem jk_i2c (s : Int32) : ∃ n : Nat, n < 65536 ∧ (s.toUInt32 % 65536).toInt32 = nI n := by
  refine ⟨(s.toUInt32 % 65536).toNat, by rw [UInt32.toNat_mod]; exact Nat.mod_lt _ (by decide), ?_⟩
  unfold nI
  apply Int32.toBitVec_inj.mp
  apply BitVec.eq_of_toNat_eq
  simp
  show s.toBitVec.toNat % 65536 = s.toBitVec.toNat % 65536 % 4294967296
  omega
end
/-! part 49.t2.mtext -/
section
/-! THE REFERENCE'S READER OF TEXTS: a relation, closed under one rule for each road (66.t2: mtext.py) -/
abbrev m_L : Type := List (Int32 × Int32)
def m_lk (P : Nat) (T : Nat → Int32) (a : Nat) : Int32 := if a < P then T a else -1
abbrev m_nm (u : Nat) (c : Int32) : Prop := (u = 0 ∧ (c = 116 ∨ c = 99 ∨ c = 119)) ∨ (u = 1 ∧ (c = 110 ∨ c = 104 ∨ c = 107))
abbrev m_dg (c : Int32) : Prop := 48 ≤ c ∧ c ≤ 57
def m_sg (L : Nat) (c : Int32) : Prop := (L = 0 ∧ c = 124) ∨ (L = 1 ∧ c = 38) ∨ (L = 3 ∧ (c = 43 ∨ c = 45)) ∨ (L = 4 ∧ (c = 42 ∨ c = 47 ∨ c = 37))
def m_cp (c : Int32) : Prop := c = 60 ∨ c = 61 ∨ c = 62
def m_bin (L : Nat) : Prop := L = 0 ∨ L = 1 ∨ L = 3 ∨ L = 4
/-- digits, so many at most: what they are, and where they end -/
def m_dig (P : Nat) (T : Nat → Int32) : Nat → Nat → Int32 → Int32 × Nat
  | 0, a, v => (v, a)
  | n + 1, a, v => if m_dg (m_lk P T a) then m_dig P T n (a + 1) (10 * v + m_lk P T a - 48) else (v, a)
abbrev m_T : Type := Nat → Nat → Nat → m_L → Bool → Nat → Nat → m_L → Prop
def m_C (P : Nat) (T : Nat → Int32) (u : Nat) (R : m_T) : Prop := (∀ (L : Nat) (a o : Nat) (l : m_L) (a' o' : Nat) (l' : m_L), m_bin L → R (L + 1) a o l false a' o' l' → R L a o l false a' o' l') ∧ (∀ (L : Nat) (a o : Nat) (l : m_L) (a1 o1 : Nat) (l1 : m_L) (b : Bool) (a' o' : Nat) (l' : m_L), m_bin L → R (L + 1) a o l true a1 o1 l1 → R (L + 10) a1 o1 l1 b a' o' l' → R L a o l b a' o' l') ∧ (∀ (L : Nat) (a o : Nat) (l : m_L), m_bin L → ¬ m_sg L (m_lk P T a) → R (L + 10) a o l true a o l) ∧ (∀ (L : Nat) (a o : Nat) (l : m_L) (a' o' : Nat) (l' : m_L), m_bin L → m_sg L (m_lk P T a) → R (L + 1) (a + 1) o l false a' o' l' → R (L + 10) a o l false a' o' l') ∧ (∀ (L : Nat) (a o : Nat) (l : m_L) (a1 o1 : Nat) (l1 : m_L) (b : Bool) (a' o' : Nat) (l' : m_L), m_bin L → m_sg L (m_lk P T a) → R (L + 1) (a + 1) o l true a1 o1 l1 → R (L + 10) a1 o1 ((3, m_lk P T a) :: l1) b a' o' l' → R (L + 10) a o l b a' o' l') ∧ (∀ (a o : Nat) (l : m_L) (a' o' : Nat) (l' : m_L), R 3 a o l false a' o' l' → R 2 a o l false a' o' l') ∧ (∀ (a o : Nat) (l : m_L) (a1 o1 : Nat) (l1 : m_L), R 3 a o l true a1 o1 l1 → ¬ m_cp (m_lk P T a1) → R 2 a o l true a1 o1 l1) ∧ (∀ (a o : Nat) (l : m_L) (a1 o1 : Nat) (l1 : m_L) (a' o' : Nat) (l' : m_L), R 3 a o l true a1 o1 l1 → m_cp (m_lk P T a1) → R 3 (a1 + 1) o1 l1 false a' o' l' → R 2 a o l false a' o' l') ∧ (∀ (a o : Nat) (l : m_L) (a1 o1 : Nat) (l1 : m_L) (a2 o2 : Nat) (l2 : m_L), R 3 a o l true a1 o1 l1 → m_cp (m_lk P T a1) → R 3 (a1 + 1) o1 l1 true a2 o2 l2 → R 2 a o l true a2 o2 ((3, m_lk P T a1) :: l2)) ∧ (∀ (a o : Nat) (l : m_L), m_nm u (m_lk P T a) → R 5 a o l true (a + 1) o ((1, m_lk P T a) :: l)) ∧ (∀ (a o : Nat) (l : m_L), ¬ m_nm u (m_lk P T a) → m_dg (m_lk P T a) → R 5 a o l true (m_dig P T 4 a 0).2 o ((0, (m_dig P T 4 a 0).1) :: l)) ∧ (∀ (a o : Nat) (l : m_L) (a1 o1 : Nat) (l1 : m_L), m_lk P T a = 33 → o < 5 → R 5 (a + 1) (o + 1) l true a1 o1 l1 → R 5 a o l true a1 (o1 - 1) ((2, 0) :: l1)) ∧ (∀ (a o : Nat) (l : m_L) (a' o' : Nat) (l' : m_L), m_lk P T a = 33 → o < 5 → R 5 (a + 1) (o + 1) l false a' o' l' → R 5 a o l false a' o' l') ∧ (∀ (a o : Nat) (l : m_L), m_lk P T a = 33 → ¬ (o < 5) → R 5 a o l false a o l) ∧ (∀ (a o : Nat) (l : m_L) (a1 o1 : Nat) (l1 : m_L), m_lk P T a = 40 → o < 5 → R 0 (a + 1) (o + 1) l true a1 o1 l1 → m_lk P T a1 = 41 → R 5 a o l true (a1 + 1) (o1 - 1) l1) ∧ (∀ (a o : Nat) (l : m_L) (a1 o1 : Nat) (l1 : m_L), m_lk P T a = 40 → o < 5 → R 0 (a + 1) (o + 1) l true a1 o1 l1 → ¬ (m_lk P T a1 = 41) → R 5 a o l false a1 o1 l1) ∧ (∀ (a o : Nat) (l : m_L) (a' o' : Nat) (l' : m_L), m_lk P T a = 40 → o < 5 → R 0 (a + 1) (o + 1) l false a' o' l' → R 5 a o l false a' o' l') ∧ (∀ (a o : Nat) (l : m_L), m_lk P T a = 40 → ¬ (o < 5) → R 5 a o l false a o l) ∧ (∀ (a o : Nat) (l : m_L), ¬ m_nm u (m_lk P T a) → ¬ m_dg (m_lk P T a) → ¬ (m_lk P T a = 33) → ¬ (m_lk P T a = 40) → R 5 a o l false a o l)
def m_R (P : Nat) (T : Nat → Int32) (u L a o : Nat) (l : m_L) (b : Bool) (a' o' : Nat) (l' : m_L) : Prop := ∀ R : m_T, m_C P T u R → R L a o l b a' o' l'
theorem m_R.bf {P : Nat} {T : Nat → Int32} {u : Nat} {L : Nat} {a o : Nat} {l : m_L} {a' o' : Nat} {l' : m_L} (h0 : m_bin L) (h1 : m_R P T u (L + 1) a o l false a' o' l') : m_R P T u L a o l false a' o' l' := fun R C => C.1 L a o l a' o' l' h0 (h1 R C)
theorem m_R.bt {P : Nat} {T : Nat → Int32} {u : Nat} {L : Nat} {a o : Nat} {l : m_L} {a1 o1 : Nat} {l1 : m_L} {b : Bool} {a' o' : Nat} {l' : m_L} (h0 : m_bin L) (h1 : m_R P T u (L + 1) a o l true a1 o1 l1) (h2 : m_R P T u (L + 10) a1 o1 l1 b a' o' l') : m_R P T u L a o l b a' o' l' := fun R C => C.2.1 L a o l a1 o1 l1 b a' o' l' h0 (h1 R C) (h2 R C)
theorem m_R.le {P : Nat} {T : Nat → Int32} {u : Nat} {L : Nat} {a o : Nat} {l : m_L} (h0 : m_bin L) (h1 : ¬ m_sg L (m_lk P T a)) : m_R P T u (L + 10) a o l true a o l := fun R C => C.2.2.1 L a o l h0 h1
theorem m_R.lf {P : Nat} {T : Nat → Int32} {u : Nat} {L : Nat} {a o : Nat} {l : m_L} {a' o' : Nat} {l' : m_L} (h0 : m_bin L) (h1 : m_sg L (m_lk P T a)) (h2 : m_R P T u (L + 1) (a + 1) o l false a' o' l') : m_R P T u (L + 10) a o l false a' o' l' := fun R C => C.2.2.2.1 L a o l a' o' l' h0 h1 (h2 R C)
theorem m_R.lt {P : Nat} {T : Nat → Int32} {u : Nat} {L : Nat} {a o : Nat} {l : m_L} {a1 o1 : Nat} {l1 : m_L} {b : Bool} {a' o' : Nat} {l' : m_L} (h0 : m_bin L) (h1 : m_sg L (m_lk P T a)) (h2 : m_R P T u (L + 1) (a + 1) o l true a1 o1 l1) (h3 : m_R P T u (L + 10) a1 o1 ((3, m_lk P T a) :: l1) b a' o' l') : m_R P T u (L + 10) a o l b a' o' l' := fun R C => C.2.2.2.2.1 L a o l a1 o1 l1 b a' o' l' h0 h1 (h2 R C) (h3 R C)
theorem m_R.cf {P : Nat} {T : Nat → Int32} {u : Nat} {a o : Nat} {l : m_L} {a' o' : Nat} {l' : m_L} (h0 : m_R P T u 3 a o l false a' o' l') : m_R P T u 2 a o l false a' o' l' := fun R C => C.2.2.2.2.2.1 a o l a' o' l' (h0 R C)
theorem m_R.c1 {P : Nat} {T : Nat → Int32} {u : Nat} {a o : Nat} {l : m_L} {a1 o1 : Nat} {l1 : m_L} (h0 : m_R P T u 3 a o l true a1 o1 l1) (h1 : ¬ m_cp (m_lk P T a1)) : m_R P T u 2 a o l true a1 o1 l1 := fun R C => C.2.2.2.2.2.2.1 a o l a1 o1 l1 (h0 R C) h1
theorem m_R.c2f {P : Nat} {T : Nat → Int32} {u : Nat} {a o : Nat} {l : m_L} {a1 o1 : Nat} {l1 : m_L} {a' o' : Nat} {l' : m_L} (h0 : m_R P T u 3 a o l true a1 o1 l1) (h1 : m_cp (m_lk P T a1)) (h2 : m_R P T u 3 (a1 + 1) o1 l1 false a' o' l') : m_R P T u 2 a o l false a' o' l' := fun R C => C.2.2.2.2.2.2.2.1 a o l a1 o1 l1 a' o' l' (h0 R C) h1 (h2 R C)
theorem m_R.c2t {P : Nat} {T : Nat → Int32} {u : Nat} {a o : Nat} {l : m_L} {a1 o1 : Nat} {l1 : m_L} {a2 o2 : Nat} {l2 : m_L} (h0 : m_R P T u 3 a o l true a1 o1 l1) (h1 : m_cp (m_lk P T a1)) (h2 : m_R P T u 3 (a1 + 1) o1 l1 true a2 o2 l2) : m_R P T u 2 a o l true a2 o2 ((3, m_lk P T a1) :: l2) := fun R C => C.2.2.2.2.2.2.2.2.1 a o l a1 o1 l1 a2 o2 l2 (h0 R C) h1 (h2 R C)
theorem m_R.nam {P : Nat} {T : Nat → Int32} {u : Nat} {a o : Nat} {l : m_L} (h0 : m_nm u (m_lk P T a)) : m_R P T u 5 a o l true (a + 1) o ((1, m_lk P T a) :: l) := fun R C => C.2.2.2.2.2.2.2.2.2.1 a o l h0
theorem m_R.num {P : Nat} {T : Nat → Int32} {u : Nat} {a o : Nat} {l : m_L} (h0 : ¬ m_nm u (m_lk P T a)) (h1 : m_dg (m_lk P T a)) : m_R P T u 5 a o l true (m_dig P T 4 a 0).2 o ((0, (m_dig P T 4 a 0).1) :: l) := fun R C => C.2.2.2.2.2.2.2.2.2.2.1 a o l h0 h1
theorem m_R.nt {P : Nat} {T : Nat → Int32} {u : Nat} {a o : Nat} {l : m_L} {a1 o1 : Nat} {l1 : m_L} (h0 : m_lk P T a = 33) (h1 : o < 5) (h2 : m_R P T u 5 (a + 1) (o + 1) l true a1 o1 l1) : m_R P T u 5 a o l true a1 (o1 - 1) ((2, 0) :: l1) := fun R C => C.2.2.2.2.2.2.2.2.2.2.2.1 a o l a1 o1 l1 h0 h1 (h2 R C)
theorem m_R.nf {P : Nat} {T : Nat → Int32} {u : Nat} {a o : Nat} {l : m_L} {a' o' : Nat} {l' : m_L} (h0 : m_lk P T a = 33) (h1 : o < 5) (h2 : m_R P T u 5 (a + 1) (o + 1) l false a' o' l') : m_R P T u 5 a o l false a' o' l' := fun R C => C.2.2.2.2.2.2.2.2.2.2.2.2.1 a o l a' o' l' h0 h1 (h2 R C)
theorem m_R.no {P : Nat} {T : Nat → Int32} {u : Nat} {a o : Nat} {l : m_L} (h0 : m_lk P T a = 33) (h1 : ¬ (o < 5)) : m_R P T u 5 a o l false a o l := fun R C => C.2.2.2.2.2.2.2.2.2.2.2.2.2.1 a o l h0 h1
theorem m_R.pt {P : Nat} {T : Nat → Int32} {u : Nat} {a o : Nat} {l : m_L} {a1 o1 : Nat} {l1 : m_L} (h0 : m_lk P T a = 40) (h1 : o < 5) (h2 : m_R P T u 0 (a + 1) (o + 1) l true a1 o1 l1) (h3 : m_lk P T a1 = 41) : m_R P T u 5 a o l true (a1 + 1) (o1 - 1) l1 := fun R C => C.2.2.2.2.2.2.2.2.2.2.2.2.2.2.1 a o l a1 o1 l1 h0 h1 (h2 R C) h3
theorem m_R.pn {P : Nat} {T : Nat → Int32} {u : Nat} {a o : Nat} {l : m_L} {a1 o1 : Nat} {l1 : m_L} (h0 : m_lk P T a = 40) (h1 : o < 5) (h2 : m_R P T u 0 (a + 1) (o + 1) l true a1 o1 l1) (h3 : ¬ (m_lk P T a1 = 41)) : m_R P T u 5 a o l false a1 o1 l1 := fun R C => C.2.2.2.2.2.2.2.2.2.2.2.2.2.2.2.1 a o l a1 o1 l1 h0 h1 (h2 R C) h3
theorem m_R.pf {P : Nat} {T : Nat → Int32} {u : Nat} {a o : Nat} {l : m_L} {a' o' : Nat} {l' : m_L} (h0 : m_lk P T a = 40) (h1 : o < 5) (h2 : m_R P T u 0 (a + 1) (o + 1) l false a' o' l') : m_R P T u 5 a o l false a' o' l' := fun R C => C.2.2.2.2.2.2.2.2.2.2.2.2.2.2.2.2.1 a o l a' o' l' h0 h1 (h2 R C)
theorem m_R.po {P : Nat} {T : Nat → Int32} {u : Nat} {a o : Nat} {l : m_L} (h0 : m_lk P T a = 40) (h1 : ¬ (o < 5)) : m_R P T u 5 a o l false a o l := fun R C => C.2.2.2.2.2.2.2.2.2.2.2.2.2.2.2.2.2.1 a o l h0 h1
theorem m_R.el {P : Nat} {T : Nat → Int32} {u : Nat} {a o : Nat} {l : m_L} (h0 : ¬ m_nm u (m_lk P T a)) (h1 : ¬ m_dg (m_lk P T a)) (h2 : ¬ (m_lk P T a = 33)) (h3 : ¬ (m_lk P T a = 40)) : m_R P T u 5 a o l false a o l := fun R C => C.2.2.2.2.2.2.2.2.2.2.2.2.2.2.2.2.2.2 a o l h0 h1 h2 h3
theorem m_lk_lt {P : Nat} {T : Nat → Int32} {a : Nat} (h : ¬ (m_lk P T a = -1)) : a < P := by
  rcases Nat.lt_or_ge a P with q | q
  · exact q
  · exact absurd (if_neg (Nat.not_lt.mpr q)) h
theorem m_lk_is {P : Nat} {T : Nat → Int32} {a : Nat} {c : Int32} (h : m_lk P T a = c) (hc : ¬ (c = -1)) : a < P := m_lk_lt (by rw [h]; exact hc)
theorem m_nm_lt {P : Nat} {T : Nat → Int32} {a u : Nat} (h : m_nm u (m_lk P T a)) : a < P := by
  rcases h with ⟨-, h | h | h⟩ | ⟨-, h | h | h⟩ <;> exact m_lk_is h (by decide)
theorem m_dg_lt {P : Nat} {T : Nat → Int32} {a : Nat} (h : m_dg (m_lk P T a)) : a < P := m_lk_lt (fun q => by rw [q] at h; exact absurd h.1 (by decide))
theorem m_cp_lt {P : Nat} {T : Nat → Int32} {a : Nat} (h : m_cp (m_lk P T a)) : a < P := by
  rcases h with h | h | h <;> exact m_lk_is h (by decide)
theorem m_sg_lt {P : Nat} {T : Nat → Int32} {a L : Nat} (h : m_sg L (m_lk P T a)) : a < P := by
  rcases h with ⟨-, h⟩ | ⟨-, h⟩ | ⟨-, h | h⟩ | ⟨-, h | h | h⟩ <;> exact m_lk_is h (by decide)
theorem m_dig_le {P : Nat} {T : Nat → Int32} : ∀ (n a : Nat) (v : Int32), a ≤ P → a ≤ (m_dig P T n a v).2 ∧ (m_dig P T n a v).2 ≤ P
  | 0, a, v, h => ⟨Nat.le_refl a, h⟩
  | n + 1, a, v, h => by
    unfold m_dig
    split
    · next c =>
      have g := m_dig_le (P := P) (T := T) n (a + 1) (10 * v + m_lk P T a - 48) (m_dg_lt c)
      exact ⟨by omega, g.2⟩
    · exact ⟨Nat.le_refl a, h⟩
theorem m_dig_lt {P : Nat} {T : Nat → Int32} {n a : Nat} {v : Int32} (c : m_dg (m_lk P T a)) : a + 1 ≤ (m_dig P T (n + 1) a v).2 := by
  unfold m_dig
  rw [if_pos c]
  exact (m_dig_le n (a + 1) _ (m_dg_lt c)).1
/-- what steps (the latest first) do to how many numbers there are -/
def m_ef (ok : Int32 → Prop) : m_L → Nat → Nat → Prop
  | [], d, d' => d' = d
  | p :: r, d, d' => ∃ d1, m_ef ok r d d1 ∧ ((p.1 = 0 ∧ d' = d1 + 1) ∨ (p.1 = 1 ∧ ok p.2 ∧ d' = d1 + 1) ∨ (p.1 = 2 ∧ 1 ≤ d1 ∧ d' = d1) ∨ (p.1 = 3 ∧ 2 ≤ d1 ∧ d' + 1 = d1))
theorem m_ef_app {ok : Int32 → Prop} {t : m_L} : ∀ (s : m_L) {d d1 d2 : Nat}, m_ef ok t d d1 → m_ef ok s d1 d2 → m_ef ok (s ++ t) d d2
  | [], d, d1, d2, h1, h2 => by
    have h2 : d2 = d1 := h2
    rw [h2]
    exact h1
  | p :: s, d, d1, d2, h1, ⟨d3, h3, h4⟩ => ⟨d3, m_ef_app s h1 h3, h4⟩
def m_eff (ok : Int32 → Prop) (L : Nat) (t : m_L) : Prop := if L < 10 then ∀ d, m_ef ok t d (d + 1) else ∀ d, m_ef ok t (d + 1) (d + 1)
/-- what is sure of every road -/
def m_S (P u : Nat) : m_T := fun L a o l b a' o' l' => a ≤ a' ∧ (a ≤ P → a' ≤ P) ∧ o ≤ o' ∧ (o ≤ 5 → o' ≤ 5) ∧ ∃ t : m_L, l' = t ++ l ∧ t.length + a ≤ a' ∧ (b = true → o' = o ∧ m_eff (m_nm u) L t ∧ (L < 10 → a < a'))
theorem m_bin10 {L : Nat} (h : m_bin L) : L < 10 ∧ L + 1 < 10 := by
  rcases h with rfl | rfl | rfl | rfl <;> omega
theorem m_S_C (P : Nat) (T : Nat → Int32) (u : Nat) : m_C P T u (m_S P u) := by
  refine ⟨?_, ?_, ?_, ?_, ?_, ?_, ?_, ?_, ?_, ?_, ?_, ?_, ?_, ?_, ?_, ?_, ?_, ?_, ?_⟩
  · rintro L a o l a' o' l' hL ⟨h1, h2, h3, h4, t, h5, h6, -⟩
    exact ⟨h1, h2, h3, h4, t, h5, h6, fun q => by cases q⟩
  · rintro L a o l a1 o1 l1 b a' o' l' hL ⟨h1, h2, h3, h4, t, h5, h6, h7⟩ ⟨k1, k2, k3, k4, s, k5, k6, k7⟩
    obtain ⟨e1, e2, e3⟩ := h7 rfl
    have hb := m_bin10 hL
    refine ⟨by omega, fun q => k2 (h2 q), by omega, fun q => k4 (h4 q), s ++ t, by rw [k5, h5, List.append_assoc], by rw [List.length_append]; omega, fun q => ?_⟩
    obtain ⟨g1, g2, g3⟩ := k7 q
    refine ⟨by omega, ?_, fun _ => by have := e3 hb.2; omega⟩
    unfold m_eff at e2 g2 ⊢
    rw [if_pos hb.2] at e2
    rw [if_neg (by omega)] at g2
    rw [if_pos hb.1]
    exact fun d => m_ef_app s (e2 d) (g2 d)
  · rintro L a o l hL hs
    refine ⟨Nat.le_refl a, fun q => q, Nat.le_refl o, fun q => q, [], rfl, by simp, fun _ => ⟨rfl, ?_, fun q => by omega⟩⟩
    unfold m_eff
    rw [if_neg (by omega)]
    exact fun d => rfl
  · rintro L a o l a' o' l' hL hs ⟨h1, h2, h3, h4, t, h5, h6, -⟩
    have := m_sg_lt hs
    exact ⟨by omega, fun q => h2 (by omega), h3, h4, t, h5, by omega, fun q => by cases q⟩
  · rintro L a o l a1 o1 l1 b a' o' l' hL hs ⟨h1, h2, h3, h4, t, h5, h6, h7⟩ ⟨k1, k2, k3, k4, s, k5, k6, k7⟩
    have := m_sg_lt hs
    obtain ⟨e1, e2, e3⟩ := h7 rfl
    have hb := m_bin10 hL
    refine ⟨by omega, fun q => k2 (h2 (by omega)), by omega, fun q => k4 (h4 q), s ++ ((3, m_lk P T a) :: t), by rw [k5, h5, List.append_assoc]; rfl, by rw [List.length_append, List.length_cons]; omega, fun q => ?_⟩
    obtain ⟨g1, g2, g3⟩ := k7 q
    refine ⟨by omega, ?_, fun q => by omega⟩
    unfold m_eff at e2 g2 ⊢
    rw [if_pos hb.2] at e2
    rw [if_neg (by omega)] at g2
    rw [if_neg (by omega)]
    exact fun d => m_ef_app s ⟨d + 1 + 1, e2 (d + 1), Or.inr (Or.inr (Or.inr ⟨rfl, by omega, rfl⟩))⟩ (g2 d)
  · rintro a o l a' o' l' ⟨h1, h2, h3, h4, t, h5, h6, -⟩
    exact ⟨h1, h2, h3, h4, t, h5, h6, fun q => by cases q⟩
  · rintro a o l a1 o1 l1 ⟨h1, h2, h3, h4, t, h5, h6, h7⟩ hc
    refine ⟨h1, h2, h3, h4, t, h5, h6, fun q => ⟨(h7 q).1, ?_, fun _ => (h7 q).2.2 (by omega)⟩⟩
    have e2 := (h7 q).2.1
    unfold m_eff at e2 ⊢
    rw [if_pos (by omega)] at e2 ⊢
    exact e2
  · rintro a o l a1 o1 l1 a' o' l' ⟨h1, h2, h3, h4, t, h5, h6, h7⟩ hc ⟨k1, k2, k3, k4, s, k5, k6, -⟩
    have := m_cp_lt hc
    exact ⟨by omega, fun q => k2 (by omega), by omega, fun q => k4 (h4 q), s ++ t, by rw [k5, h5, List.append_assoc], by rw [List.length_append]; omega, fun q => by cases q⟩
  · rintro a o l a1 o1 l1 a2 o2 l2 ⟨h1, h2, h3, h4, t, h5, h6, h7⟩ hc ⟨k1, k2, k3, k4, s, k5, k6, k7⟩
    have := m_cp_lt hc
    obtain ⟨e1, e2, e3⟩ := h7 rfl
    obtain ⟨g1, g2, g3⟩ := k7 rfl
    refine ⟨by omega, fun q => k2 (by omega), by omega, fun q => k4 (h4 q), (3, m_lk P T a1) :: (s ++ t), by rw [k5, h5, List.cons_append, List.append_assoc], by rw [List.length_cons, List.length_append]; omega, fun q => ⟨by omega, ?_, fun _ => by have := e3 (by omega); omega⟩⟩
    unfold m_eff at e2 g2 ⊢
    rw [if_pos (by omega)] at e2 g2 ⊢
    exact fun d => ⟨d + 1 + 1, m_ef_app s (e2 d) (g2 (d + 1)), Or.inr (Or.inr (Or.inr ⟨rfl, by omega, rfl⟩))⟩
  · rintro a o l hn
    have := m_nm_lt hn
    refine ⟨by omega, fun q => by omega, Nat.le_refl o, fun q => q, [(1, m_lk P T a)], rfl, by simp; omega, fun _ => ⟨rfl, ?_, fun _ => by omega⟩⟩
    unfold m_eff
    rw [if_pos (by omega)]
    exact fun d => ⟨d, rfl, Or.inr (Or.inl ⟨rfl, hn, rfl⟩)⟩
  · rintro a o l hn hd
    have h1 := m_dig_le (P := P) (T := T) 4 a 0 (Nat.le_of_lt (m_dg_lt hd))
    have h2 : a + 1 ≤ (m_dig P T 4 a 0).2 := m_dig_lt (n := 3) (v := 0) hd
    refine ⟨h1.1, fun q => h1.2, Nat.le_refl o, fun q => q, [(0, (m_dig P T 4 a 0).1)], rfl, by simp only [List.length_cons, List.length_nil]; omega, fun _ => ⟨rfl, ?_, fun _ => by omega⟩⟩
    unfold m_eff
    rw [if_pos (by omega)]
    exact fun d => ⟨d, rfl, Or.inl ⟨rfl, rfl⟩⟩
  · rintro a o l a1 o1 l1 hc ho ⟨h1, h2, h3, h4, t, h5, h6, h7⟩
    have := m_lk_is hc (by decide)
    obtain ⟨e1, e2, e3⟩ := h7 rfl
    refine ⟨by omega, fun q => h2 (by omega), by omega, fun q => by omega, (2, 0) :: t, by rw [h5]; rfl, by rw [List.length_cons]; omega, fun q => ⟨by omega, ?_, fun _ => by omega⟩⟩
    unfold m_eff at e2 ⊢
    rw [if_pos (by omega)] at e2 ⊢
    exact fun d => ⟨d + 1, e2 d, Or.inr (Or.inr (Or.inl ⟨rfl, by omega, rfl⟩))⟩
  · rintro a o l a' o' l' hc ho ⟨h1, h2, h3, h4, t, h5, h6, h7⟩
    have := m_lk_is hc (by decide)
    exact ⟨by omega, fun q => h2 (by omega), by omega, fun q => h4 (by omega), t, h5, by omega, fun q => by cases q⟩
  · rintro a o l hc ho
    exact ⟨Nat.le_refl a, fun q => q, Nat.le_refl o, fun q => q, [], rfl, by simp, fun q => by cases q⟩
  · rintro a o l a1 o1 l1 hc ho ⟨h1, h2, h3, h4, t, h5, h6, h7⟩ hk
    have := m_lk_is hc (by decide)
    have := m_lk_is hk (by decide)
    obtain ⟨e1, e2, e3⟩ := h7 rfl
    exact ⟨by omega, fun q => by omega, by omega, fun q => by omega, t, h5, by omega, fun q => ⟨by omega, e2, fun _ => by omega⟩⟩
  · rintro a o l a1 o1 l1 hc ho ⟨h1, h2, h3, h4, t, h5, h6, h7⟩ hk
    have := m_lk_is hc (by decide)
    exact ⟨by omega, fun q => h2 (by omega), by omega, fun q => h4 (by omega), t, h5, by omega, fun q => by cases q⟩
  · rintro a o l a' o' l' hc ho ⟨h1, h2, h3, h4, t, h5, h6, h7⟩
    have := m_lk_is hc (by decide)
    exact ⟨by omega, fun q => h2 (by omega), by omega, fun q => h4 (by omega), t, h5, by omega, fun q => by cases q⟩
  · rintro a o l hc ho
    exact ⟨Nat.le_refl a, fun q => q, Nat.le_refl o, fun q => q, [], rfl, by simp, fun q => by cases q⟩
  · rintro a o l h1 h2 h3 h4
    exact ⟨Nat.le_refl a, fun q => q, Nat.le_refl o, fun q => q, [], rfl, by simp, fun q => by cases q⟩
theorem m_R.S {P : Nat} {T : Nat → Int32} {u L a o a' o' : Nat} {l l' : m_L} {b : Bool} (h : m_R P T u L a o l b a' o' l') : m_S P u L a o l b a' o' l' := h _ (m_S_C P T u)
/-- steps as the reference lays them, the latest first -/
def m_st (g : Nat → Int32) : m_L → Prop
  | [] => True
  | p :: r => g (2 * r.length) = p.1 ∧ g (2 * r.length + 1) = p.2 ∧ m_st g r
theorem m_st_up {g : Nat → Int32} {x : Int32} {k : Nat} : ∀ (l : m_L), 2 * l.length ≤ k → m_st g l → m_st (upd g k x) l
  | [], _, _ => trivial
  | p :: r, hk, h => by
    simp only [List.length_cons] at hk
    exact ⟨by rw [px_upd_ne g x (by omega)]; exact h.1, by rw [px_upd_ne g x (by omega)]; exact h.2.1, m_st_up r (by omega) h.2.2⟩
def m_rep (P : Nat) (T : Nat → Int32) (u : Nat) (Z : Nat → Int32) (F : Nat → Nat → Int32) (a o : Nat) (l : m_L) : Prop := (F 0 8 = nI P ∧ P ≤ 60 ∧ ∀ i : Nat, i < P → F 0 (286 + i) = T i) ∧ (a ≤ P ∧ o ≤ 5 ∧ l.length ≤ a ∧ u ≤ 1) ∧ Z 1 = nI a ∧ Z 2 = nI o ∧ Z 3 = nI l.length ∧ Z 4 = nI u ∧ m_st (F 5) l
def m_same (Z : Nat → Int32) (F : Nat → Nat → Int32) (Z' : Nat → Int32) (F' : Nat → Nat → Int32) : Prop := (∀ i : Nat, ¬ (1 ≤ i ∧ i ≤ 3) → Z' i = Z i) ∧ ∀ q : Nat, q ≠ 5 → F' q = F q
theorem m_same.rf {Z : Nat → Int32} {F : Nat → Nat → Int32} : m_same Z F Z F := ⟨fun _ _ => rfl, fun _ _ => rfl⟩
theorem m_same.tr {Z Z1 Z2 : Nat → Int32} {F F1 F2 : Nat → Nat → Int32} (h : m_same Z F Z1 F1) (k : m_same Z1 F1 Z2 F2) : m_same Z F Z2 F2 := ⟨fun i hi => (k.1 i hi).trans (h.1 i hi), fun q hq => (k.2 q hq).trans (h.2 q hq)⟩
theorem m_same.z {Z : Nat → Int32} {F : Nat → Nat → Int32} {k : Nat} {x : Int32} (hk : 1 ≤ k ∧ k ≤ 3) : m_same Z F (upd Z k x) F := ⟨fun i hi => px_upd_ne Z x (by omega), fun _ _ => rfl⟩
section MREP
variable {P : Nat} {T : Nat → Int32} {u : Nat} {Z : Nat → Int32} {F : Nat → Nat → Int32} {a o : Nat} {l : m_L}
theorem m_rep.at1 (h : m_rep P T u Z F a o l) (ha : a < P) : m_rep P T u (upd Z 1 (Z 1 + 1)) F (a + 1) o l := by
  obtain ⟨h1, ⟨h2, h3, h4, h5⟩, h6, h7, h8, h9, h10⟩ := h
  exact ⟨h1, ⟨ha, h3, by omega, h5⟩, by rw [px_upd_self, h6]; exact (nI_succ a).symm, by rw [px_upd_ne _ _ (by omega)]; exact h7, by rw [px_upd_ne _ _ (by omega)]; exact h8, by rw [px_upd_ne _ _ (by omega)]; exact h9, h10⟩
theorem m_rep.op1 (h : m_rep P T u Z F a o l) (ho : o < 5) : m_rep P T u (upd Z 2 (Z 2 + 1)) F a (o + 1) l := by
  obtain ⟨h1, ⟨h2, h3, h4, h5⟩, h6, h7, h8, h9, h10⟩ := h
  exact ⟨h1, ⟨h2, ho, h4, h5⟩, by rw [px_upd_ne _ _ (by omega)]; exact h6, by rw [px_upd_self, h7]; exact (nI_succ o).symm, by rw [px_upd_ne _ _ (by omega)]; exact h8, by rw [px_upd_ne _ _ (by omega)]; exact h9, h10⟩
theorem m_rep.opm (h : m_rep P T u Z F a o l) (ho : 1 ≤ o) : m_rep P T u (upd Z 2 (Z 2 - 1)) F a (o - 1) l := by
  obtain ⟨h1, ⟨h2, h3, h4, h5⟩, h6, h7, h8, h9, h10⟩ := h
  exact ⟨h1, ⟨h2, by omega, h4, h5⟩, by rw [px_upd_ne _ _ (by omega)]; exact h6, by rw [px_upd_self, h7]; exact (show nI o - nI 1 = nI (o - 1) from zz_sub ho), by rw [px_upd_ne _ _ (by omega)]; exact h8, by rw [px_upd_ne _ _ (by omega)]; exact h9, h10⟩
theorem m_rep.stp (h : m_rep P T u Z F a o l) (hl : l.length + 1 ≤ a) (w v : Int32) : m_rep P T u (upd Z 3 (nI l.length + 1)) (va_up F 5 (upd (upd (F 5) (2 * l.length) w) (2 * l.length + 1) v)) a o ((w, v) :: l) := by
  obtain ⟨⟨g1, g2, g3⟩, ⟨h2, h3, h4, h5⟩, h6, h7, h8, h9, h10⟩ := h
  refine ⟨⟨g1, g2, g3⟩, ⟨h2, h3, hl, h5⟩, by rw [px_upd_ne _ _ (by omega)]; exact h6, by rw [px_upd_ne _ _ (by omega)]; exact h7, by rw [px_upd_self]; exact (nI_succ _).symm, by rw [px_upd_ne _ _ (by omega)]; exact h9, ?_⟩
  rw [px_up_self]
  exact ⟨by rw [px_upd_ne _ _ (by omega), px_upd_self], px_upd_self _ _ _, m_st_up l (by omega) (m_st_up l (Nat.le_refl _) h10)⟩
end MREP
theorem px_PW.imp {d : Nat} {code : Nat → Option px_A} {Q Q' : Option Value → px_H → Prop} {pc : Nat} {lv : px_L} {st : List Value} {h : px_H} (k : px_PW d code Q pc lv st h) (hq : ∀ v h', Q v h' → Q' v h') : px_PW d code Q' pc lv st h := by
  obtain ⟨n, v, h', h1, h2⟩ := k
  exact ⟨n, v, h', h1, hq v h' h2⟩
/-- what a level's call leaves -/
def m_post (P : Nat) (T : Nat → Int32) (u L a o : Nat) (l : m_L) (Z : Nat → Int32) (F : Nat → Nat → Int32) : Option Value → px_H → Prop := fun r h' => ∃ (b : Bool) (a' o' : Nat) (l' : m_L) (Z' : Nat → Int32) (F' : Nat → Nat → Int32), r = some (.int (if b = true then 1 else 0)) ∧ h' = ([], px_MH Z' F') ∧ m_R P T u L a o l b a' o' l' ∧ m_rep P T u Z' F' a' o' l' ∧ m_same Z F Z' F'
def m_dep (L o : Nat) : Nat := 38 - 6 * o - L
def m_ok (P : Nat) (T : Nat → Int32) (u j L a o : Nat) (l : m_L) (Z : Nat → Int32) (F : Nat → Nat → Int32) : Prop := m_rep P T u Z F a o l → px_PM (m_dep L o) j [.ref 1000] ([], px_MH Z F) (m_post P T u L a o l Z F)
end
/-! part 49.t3.tx -/
section
/-! WHAT BOTH HOLD OF TEXTS (49.t3: textrr.py) -/
/-- steps as codes -/
def q_enc (u : Nat) (s : Int32 × Int32) : Int32 := if s.1 = 0 then s.2 else if s.1 = 1 then -1 - t_ix u s.2 else if s.1 = 2 then -33 else -s.2
def g_by (f : Nat → Int32) : Prop := ∀ i : Nat, i < (f 8).toNatClampNeg → ∃ b : Nat, b < 256 ∧ f (286 + i) = nI b
/-- numbers are 0 and above, signs those that stand between two sides -/
def q_ok (l : m_L) : Prop := ∀ s ∈ l, (s.1 = 0 → 0 ≤ s.2) ∧ (s.1 = 3 → m_cp s.2 ∨ ∃ L : Nat, m_sg L s.2)
def g_tu (u b q : Nat) (N : Nat → Int32) (F : Nat → Nat → Int32) (f : Nat → Int32) : Prop := ∃ l : m_L, l.length ≤ 60 ∧ N q = nI l.length ∧ f b = nI l.length ∧ zz_st (F q) (l.map (q_enc u)) ∧ m_st (fun j => f (b + 1 + j)) l ∧ (l = [] ∨ m_ef (m_nm u) l 0 1) ∧ q_ok l
def g_tt (q : Nat) (N : Nat → Int32) (F : Nat → Nat → Int32) (f : Nat → Int32) : Prop := g_by f ∧ g_tu 0 36 (q + 6) N F f ∧ g_tu 1 161 (q + 7) N F f
def TX (Z N : Nat → Int32) (F G : Nat → Nat → Int32) : Prop := g_tt 0 N F (G 0) ∧ (¬ (Z 21 = 0) → g_tt 9 N F (G 1))
theorem m_st_cg {g g' : Nat → Int32} : ∀ l : m_L, (∀ j : Nat, j < 2 * l.length → g' j = g j) → m_st g l → m_st g' l
  | [], _, _ => trivial
  | p :: r, he, h => by
    simp only [List.length_cons] at he
    exact ⟨(he _ (by omega)).trans h.1, (he _ (by omega)).trans h.2.1, m_st_cg r (fun j hj => he j (by omega)) h.2.2⟩
theorem zz_st_cg {g g' : Nat → Int32} : ∀ l : List Int32, (∀ j : Nat, j < l.length → g' j = g j) → zz_st g l → zz_st g' l
  | [], _, _ => trivial
  | p :: r, he, h => by
    simp only [List.length_cons] at he
    exact ⟨(he _ (by omega)).trans h.1, zz_st_cg r (fun j hj => he j (by omega)) h.2⟩
theorem g_tu.cg {u b q q2 : Nat} {N N' : Nat → Int32} {F F' : Nat → Nat → Int32} {f f' : Nat → Int32} (h : g_tu u b q N F f) (eN : N' q2 = N q) (eF : ∀ j : Nat, j < (N q).toNatClampNeg → F' q2 j = F q j) (ef : ∀ j : Nat, b ≤ j → j ≤ b + 124 → f' j = f j) : g_tu u b q2 N' F' f' := by
  obtain ⟨l, h1, h2, h3, h4, h5, h6⟩ := h
  refine ⟨l, h1, eN.trans h2, (ef b (by omega) (by omega)).trans h3, zz_st_cg _ (fun j hj => eF j ?_) h4, m_st_cg l (fun j hj => ef _ (by omega) (by omega)) h5, h6⟩
  rw [h2, nI_clamp (by omega)]
  rw [List.length_map] at hj
  exact hj
theorem g_tu.nil {u b q : Nat} {N : Nat → Int32} {F : Nat → Nat → Int32} {f : Nat → Int32} (h1 : N q = 0) (h2 : f b = 0) : g_tu u b q N F f := ⟨[], by simp, h1, h2, trivial, trivial, Or.inl rfl, fun s hs => by cases hs⟩
theorem g_by.cg {f f' : Nat → Int32} (h : g_by f) (h8 : f' 8 = f 8) (he : ∀ j : Nat, 286 ≤ j → j < 286 + (f 8).toNatClampNeg → f' j = f j) : g_by f' := by
  intro i hi
  rw [h8] at hi
  rw [he _ (by omega) (by omega)]
  exact h i hi
theorem g_tt.cg {q : Nat} {N N' : Nat → Int32} {F F' : Nat → Nat → Int32} {f f' : Nat → Int32} (h : g_tt q N F f) (eN : N' (q + 6) = N (q + 6) ∧ N' (q + 7) = N (q + 7)) (eF : F' (q + 6) = F (q + 6) ∧ F' (q + 7) = F (q + 7)) (ef : ∀ j : Nat, j = 8 ∨ (36 ≤ j ∧ j < 286) ∨ (286 ≤ j ∧ j < 286 + (f 8).toNatClampNeg) → f' j = f j) : g_tt q N' F' f' :=
  ⟨h.1.cg (ef 8 (Or.inl rfl)) (fun j h1 h2 => ef j (Or.inr (Or.inr ⟨h1, h2⟩))), h.2.1.cg eN.1 (fun j _ => congrFun eF.1 j) (fun j h1 h2 => ef j (Or.inr (Or.inl ⟨by omega, by omega⟩))), h.2.2.cg eN.2 (fun j _ => congrFun eF.2 j) (fun j h1 h2 => ef j (Or.inr (Or.inl ⟨by omega, by omega⟩)))⟩
theorem g_tt.copy {q q2 : Nat} {N N' : Nat → Int32} {F F' : Nat → Nat → Int32} {f g : Nat → Int32} (h : g_tt q N F f) (h60 : (f 8).toNatClampNeg ≤ 60) (he : ∀ j : Nat, j < 370 → g j = f j) (n6 : N' (q2 + 6) = N (q + 6)) (n7 : N' (q2 + 7) = N (q + 7)) (f6 : ∀ j : Nat, j < (N (q + 6)).toNatClampNeg → F' (q2 + 6) j = F (q + 6) j) (f7 : ∀ j : Nat, j < (N (q + 7)).toNatClampNeg → F' (q2 + 7) j = F (q + 7) j) : g_tt q2 N' F' g :=
  ⟨h.1.cg (he 8 (by omega)) (fun j h1 h2 => he j (by omega)), h.2.1.cg n6 f6 (fun j h1 h2 => he j (by omega)), h.2.2.cg n7 f7 (fun j h1 h2 => he j (by omega))⟩
theorem TX.cg {Z N Z' N' : Nat → Int32} {F G F' G' : Nat → Nat → Int32} (h : TX Z N F G) (hz : Z' 21 = Z 21) (hN : ∀ q : Nat, q = 6 ∨ q = 7 ∨ q = 15 ∨ q = 16 → N' q = N q) (hF : ∀ q : Nat, q = 6 ∨ q = 7 ∨ q = 15 ∨ q = 16 → F' q = F q) (h0 : ∀ j : Nat, j = 8 ∨ 36 ≤ j → G' 0 j = G 0 j) (h1 : G' 1 = G 1) : TX Z' N' F' G' := by
  refine ⟨h.1.cg ⟨hN 6 (by omega), hN 7 (by omega)⟩ ⟨hF 6 (by omega), hF 7 (by omega)⟩ (fun j hj => h0 j (by omega)), fun q => ?_⟩
  rw [hz] at q
  rw [h1]
  exact (h.2 q).cg ⟨hN 15 (by omega), hN 16 (by omega)⟩ ⟨hF 15 (by omega), hF 16 (by omega)⟩ (fun _ _ => rfl)
end
/-! part 50.math -/
section
/-! the wall in order: how long its rows are, their first pieces, how many -/
theorem zz_of {x : Int32} {n : Nat} (hn : n < 2000000000) (h : x.toInt = (n : Int)) : x = nI n := Int32.toInt_inj.mp (h.trans (nI_toInt (by omega)).symm)
theorem zz_add {x y : Int32} {a b : Int} (hx : x.toInt = a) (hy : y.toInt = b) (h1 : -2000000000 ≤ a + b) (h2 : a + b ≤ 2000000000) : (x + y).toInt = a + b := by
  rw [Int32.toInt_add, hx, hy]
  exact Int.bmod_eq_of_le (by omega) (by omega)
theorem zz_sbt {x y : Int32} {a b : Int} (hx : x.toInt = a) (hy : y.toInt = b) (h1 : -2000000000 ≤ a - b) (h2 : a - b ≤ 2000000000) : (x - y).toInt = a - b := by
  rw [Int32.toInt_sub, hx, hy]
  exact Int.bmod_eq_of_le (by omega) (by omega)
theorem r_len {f : Nat → Int32} {L r : Nat} (hL : f 0 = nI L) (h1 : 100 ≤ L) (h2 : L ≤ 4000) (k1 : -9 ≤ (f 3).toInt) (k2 : (f 3).toInt ≤ 9) (hr : r < 8) : ∃ e : Nat, 100 ≤ e ∧ e ≤ 4100 ∧ s_mlen f (nI r) = nI e := by
  generalize hK : (f 3).toInt = K at k1 k2
  have hm : (nI r * f 3).toInt = r * K := by
    rw [Int32.toInt_mul, nI_toInt (by omega), hK]
    refine Int.bmod_eq_of_le ?_ ?_ <;> (rcases (show r = 0 ∨ r = 1 ∨ r = 2 ∨ r = 3 ∨ r = 4 ∨ r = 5 ∨ r = 6 ∨ r = 7 by omega) with rfl | rfl | rfl | rfl | rfl | rfl | rfl | rfl <;> omega)
  have hb : -63 ≤ (r : Int) * K ∧ (r : Int) * K ≤ 63 := by
    rcases (show r = 0 ∨ r = 1 ∨ r = 2 ∨ r = 3 ∨ r = 4 ∨ r = 5 ∨ r = 6 ∨ r = 7 by omega) with rfl | rfl | rfl | rfl | rfl | rfl | rfl | rfl <;> omega
  generalize (r : Int) * K = q at hm hb
  have hv : (f 0 + nI r * f 3).toInt = L + q := zz_add (by rw [hL, nI_toInt (by omega)]) hm (by omega) (by omega)
  unfold s_mlen
  by_cases c : (100 : Int32) ≤ f 0 + nI r * f 3
  · rw [if_pos c]
    rw [Int32.le_iff_toInt_le, hv, show (100 : Int32).toInt = 100 from rfl] at c
    exact ⟨((L : Int) + q).toNat, by omega, by omega, zz_of (by omega) (by rw [hv]; omega)⟩
  · rw [if_neg c]
    exact ⟨100, by omega, by omega, rfl⟩
theorem r_fst {f : Nat → Int32} {T S r : Nat} (hT : f 1 = nI T) (hS : f 6 = nI S) (h1 : 50 ≤ T) (h2 : T ≤ 200) (s1 : 1 ≤ S) (s2 : S ≤ T) : ∃ w : Nat, 1 ≤ w ∧ w ≤ T ∧ s_mfst f (nI r) = nI w := by
  have hd : f 1 / 2 = nI (T / 2) := by rw [hT]; exact zz_div (b := 2) (by omega) (by omega)
  unfold s_mfst
  rw [hd, hS, hT, nI_add]
  have e0 : (if nI S ≤ nI T then nI S else nI S - nI T) = nI S := if_pos (nI_le s2 (by omega))
  have e1 : ∃ w : Nat, 1 ≤ w ∧ w ≤ T ∧ (if nI (S + T / 2) ≤ nI T then nI (S + T / 2) else nI (S + T / 2) - nI T) = nI w := by
    by_cases c : S + T / 2 ≤ T
    · exact ⟨S + T / 2, by omega, c, if_pos (nI_le c (by omega))⟩
    · exact ⟨S + T / 2 - T, by omega, by omega, (if_neg (nI_ge (by omega) (by omega))).trans (zz_sub (by omega))⟩
  rw [e0]
  by_cases c5 : f 5 = 1
  · rw [if_pos c5]
    by_cases c2 : nI r - nI r / 2 * 2 = 1
    · rw [if_pos c2]; exact e1
    · rw [if_neg c2]; exact ⟨S, s1, s2, rfl⟩
  · rw [if_neg c5]; exact ⟨S, s1, s2, rfl⟩
/-- of a row so many pieces behind the first begin ahead of a place -/
def r_beh (w T J x : Nat) : Nat := if x ≤ w + J then 0 else (x - w - J - 1) / (T + J) + 1
def r_pcs (e w T J : Nat) : Nat := 1 + r_beh w T J e
theorem r_beg_s (w T J : Nat) : ∀ k : Nat, r_beg w T J (k + 1) = w + J + k * (T + J)
  | 0 => by
    show 0 + (r_wd w T 0 + J) = _
    unfold r_wd
    rw [if_pos rfl]
    omega
  | k + 1 => by
    show r_beg w T J (k + 1) + (r_wd w T (k + 1) + J) = _
    rw [r_beg_s w T J k, show r_wd w T (k + 1) = T from if_neg (by omega), Nat.add_mul]
    omega
/-- a piece behind the first begins ahead of a place, just if it is one of those -/
theorem r_beh_iff {w T J x k : Nat} (hT : 0 < T) : k < r_beh w T J x ↔ r_beg w T J (k + 1) < x := by
  rw [r_beg_s]
  unfold r_beh
  by_cases c : x ≤ w + J
  · rw [if_pos c]
    constructor
    · intro h; omega
    · intro h
      have := Nat.zero_le (k * (T + J))
      omega
  · rw [if_neg c]
    have h1 : k < (x - w - J - 1) / (T + J) + 1 ↔ k * (T + J) ≤ x - w - J - 1 := by
      rw [Nat.lt_succ_iff, Nat.le_div_iff_mul_le (by omega)]
    rw [h1]
    generalize k * (T + J) = q
    omega
theorem r_pcs_lt {e w T J j : Nat} (hT : 0 < T) (he : 0 < e) (h : j < r_pcs e w T J) : r_beg w T J j < e := by
  cases j with
  | zero => exact he
  | succ k => exact (r_beh_iff hT).mp (by unfold r_pcs at h; omega)
theorem r_pcs_ge {e w T J : Nat} (hT : 0 < T) : e ≤ r_beg w T J (r_pcs e w T J) := by
  have h : ¬ (r_beh w T J e < r_beh w T J e) := Nat.lt_irrefl _
  rw [r_beh_iff hT] at h
  have e1 : r_pcs e w T J = r_beh w T J e + 1 := Nat.add_comm _ _
  rw [e1]
  omega
theorem r_beh_le {w T J x : Nat} (hT : 50 ≤ T) (hx : x ≤ 5000) : r_beh w T J x ≤ 101 := by
  unfold r_beh
  split
  · omega
  · have h : (x - w - J - 1) / (T + J) ≤ (x - w - J - 1) / 50 := Nat.div_le_div_left (by omega) (by omega)
    omega
theorem r_pcs_le {e w T J : Nat} (hT : 50 ≤ T) (he : e ≤ 4100) : r_pcs e w T J ≤ 100 := by
  unfold r_pcs r_beh
  split
  · omega
  · have h : (e - w - J - 1) / (T + J) ≤ (e - w - J - 1) / 50 := Nat.div_le_div_left (by omega) (by omega)
    omega
/-- the wall's numbers are in order -/
def g_wall (f : Nat → Int32) : Prop := ∃ L T J R B S : Nat, f 0 = nI L ∧ f 1 = nI T ∧ f 2 = nI J ∧ f 4 = nI R ∧ f 5 = nI B ∧ f 6 = nI S ∧ 100 ≤ L ∧ L ≤ 4000 ∧ 50 ≤ T ∧ T ≤ 200 ∧ J ≤ 9 ∧ 1 ≤ R ∧ R ≤ 8 ∧ B ≤ 1 ∧ 1 ≤ S ∧ S ≤ T ∧ -9 ≤ (f 3).toInt ∧ (f 3).toInt ≤ 9
def fT (f : Nat → Int32) : Nat := (f 1).toNatClampNeg
def fJ (f : Nat → Int32) : Nat := (f 2).toNatClampNeg
def fR (f : Nat → Int32) : Nat := (f 4).toNatClampNeg
def fe (f : Nat → Int32) (r : Nat) : Nat := (s_mlen f (nI r)).toNatClampNeg
def fw (f : Nat → Int32) (r : Nat) : Nat := (s_mfst f (nI r)).toNatClampNeg
def fP (f : Nat → Int32) (r : Nat) : Nat := r_pcs (fe f r) (fw f r) (fT f) (fJ f)
theorem g_TJR {f : Nat → Int32} (h : g_wall f) : (f 1 = nI (fT f) ∧ 50 ≤ fT f ∧ fT f ≤ 200) ∧ (f 2 = nI (fJ f) ∧ fJ f ≤ 9) ∧ (f 4 = nI (fR f) ∧ 1 ≤ fR f ∧ fR f ≤ 8) := by
  obtain ⟨L, T, J, R, B, S, h0, h1, h2, h4, h5, h6, a1, a2, a3, a4, a5, a6, a7, a8, a9, a10, k1, k2⟩ := h
  unfold fT fJ fR
  rw [h1, h2, h4, nI_clamp (by omega), nI_clamp (by omega), nI_clamp (by omega)]
  exact ⟨⟨rfl, a3, a4⟩, ⟨rfl, a5⟩, ⟨rfl, a6, a7⟩⟩
theorem g_row {f : Nat → Int32} (h : g_wall f) {r : Nat} (hr : r < 8) : (s_mlen f (nI r) = nI (fe f r) ∧ 100 ≤ fe f r ∧ fe f r ≤ 4100) ∧ (s_mfst f (nI r) = nI (fw f r) ∧ 1 ≤ fw f r ∧ fw f r ≤ fT f) := by
  have hT := (g_TJR h).1
  obtain ⟨L, T, J, R, B, S, h0, h1, h2, h4, h5, h6, a1, a2, a3, a4, a5, a6, a7, a8, a9, a10, k1, k2⟩ := h
  obtain ⟨e, e1, e2, e3⟩ := r_len h0 a1 a2 k1 k2 hr
  obtain ⟨w, w1, w2, w3⟩ := r_fst (r := r) h1 h6 a3 a4 a9 a10
  have hTT : fT f = T := by unfold fT; rw [h1, nI_clamp (by omega)]
  have he : fe f r = e := by unfold fe; rw [e3, nI_clamp (by omega)]
  have hw : fw f r = w := by unfold fw; rw [w3, nI_clamp (by omega)]
  rw [he, hw, hTT]
  exact ⟨⟨e3, e1, e2⟩, ⟨w3, w1, w2⟩⟩
theorem g_ok {f : Nat → Int32} (h : g_wall f) : r_ok f (fT f) (fJ f) (fR f) (fe f) (fw f) (fP f) := by
  obtain ⟨hT, hJ, hR⟩ := g_TJR h
  refine ⟨hT.1, hJ.1, hR.1, hT.2.2, hJ.2, hR.2.2, fun r hr => ?_⟩
  have hq := g_row h (show r < 8 by omega)
  exact ⟨hq.1.1, hq.2.1, by omega, by omega, r_pcs_le hT.2.1 hq.1.2.2, by unfold fP r_pcs; omega, fun j hj => r_pcs_lt (by omega) (by omega) hj, r_pcs_ge (by omega)⟩
theorem g_start {f : Nat → Int32} (h : g_wall f) {s : Nat} (h1 : 1 ≤ s) (h2 : s ≤ fT f) : g_wall (upd f 6 (nI s)) := by
  have hT := (g_TJR h).1
  obtain ⟨L, T, J, R, B, S, h0, h1', h2', h4, h5, h6, a1, a2, a3, a4, a5, a6, a7, a8, a9, a10, k1, k2⟩ := h
  have hTT : fT f = T := by unfold fT; rw [h1', nI_clamp (by omega)]
  exact ⟨L, T, J, R, B, s, h0, h1', h2', h4, h5, rfl, a1, a2, a3, a4, a5, a6, a7, a8, h1, by omega, k1, k2⟩
theorem g_okS {f : Nat → Int32} (h : g_wall f) : ∀ s : Nat, 1 ≤ s → s ≤ fT f → r_ok (upd f 6 (nI s)) (fT f) (fJ f) (fR f) (fe f) (fw (upd f 6 (nI s))) (fP (upd f 6 (nI s))) := fun s h1 h2 => g_ok (g_start h h1 h2)
end
/-! part 51.rows -/
section
/-! the class's closed forms of a row against the pieces themselves -/
theorem r_bw (w T J : Nat) : ∀ k : Nat, r_beg w T J k + r_wd w T k = w + k * (T + J)
  | 0 => by
    show 0 + r_wd w T 0 = _
    rw [show r_wd w T 0 = w from if_pos rfl]
    omega
  | k + 1 => by
    rw [r_beg_s, show r_wd w T (k + 1) = T from if_neg (by omega), Nat.add_mul]
    omega
/-- a Row of the class holds a row -/
def rw_ok (Z : Nat → Int32) (e w T J : Nat) : Prop := (Z 6 = nI w ∧ Z 7 = nI e ∧ Z 8 = nI T ∧ Z 9 = nI J ∧ Z 10 = nI (r_pcs e w T J)) ∧ 1 ≤ w ∧ w ≤ T ∧ 50 ≤ T ∧ T ≤ 200 ∧ J ≤ 9 ∧ 100 ≤ e ∧ e ≤ 4100
theorem zz_sub1 {x : Int32} {a b : Nat} (hx : x = nI a) (hb : b < 100000) (ha : a < 100000) : (x - nI b).toInt = (a : Int) - b := zz_sbt (by rw [hx, nI_toInt (by omega)]) (nI_toInt (by omega)) (by omega) (by omega)
theorem w_beh_n {Z : Nat → Int32} {w T J x : Nat} (h6 : Z 6 = nI w) (h8 : Z 8 = nI T) (h9 : Z 9 = nI J) (hw : w ≤ 200) (hT : 50 ≤ T) (hT2 : T ≤ 200) (hJ : J ≤ 9) (hx : x ≤ 5100) : w_beh Z (nI x) = nI (r_beh w T J x) := by
  unfold w_beh r_beh
  rw [h6, h8, h9]
  have h1 : (nI x - nI w - nI J).toInt = (x : Int) - w - J := zz_sbt (zz_sub1 rfl (by omega) (by omega)) (nI_toInt (by omega)) (by omega) (by omega)
  have hc : (1 : Int32) ≤ nI x - nI w - nI J ↔ ¬ (x ≤ w + J) := by
    rw [Int32.le_iff_toInt_le, h1, show (1 : Int32).toInt = 1 from rfl]
    omega
  by_cases c : x ≤ w + J
  · rw [if_neg (fun q => hc.mp q c), if_pos c]; rfl
  · rw [if_pos (hc.mpr c), if_neg c]
    have e1 : nI x - nI w - nI J - 1 = nI (x - w - J - 1) := by
      rw [zz_sub (show w ≤ x by omega), zz_sub (show J ≤ x - w by omega), show (1 : Int32) = nI 1 from rfl, zz_sub (by omega)]
    rw [e1, nI_add]
    unfold i_quo
    rw [if_neg (nI_ne0 (by omega) (by omega)), zz_div (by omega) (by omega), show (1 : Int32) = nI 1 from rfl, nI_add, Nat.add_comm 1]
theorem w_beg_n {Z : Nat → Int32} {w T J : Nat} (h6 : Z 6 = nI w) (h8 : Z 8 = nI T) (h9 : Z 9 = nI J) (k : Nat) (hk : k ≤ 200) : w_beg Z (nI k) = nI (r_beg w T J k) := by
  unfold w_beg
  rw [h6, h8, h9]
  cases k with
  | zero => rw [if_neg (show ¬ ((0 : Int32) < nI 0) by decide)]; rfl
  | succ k =>
    rw [if_pos (show (0 : Int32) < nI (k + 1) from nI_lt (a := 0) (by omega) (by omega)), nI_pred, nI_add, nI_add, zz_mul, nI_add, r_beg_s]
theorem w_end_n {Z : Nat → Int32} {e w T J : Nat} (h6 : Z 6 = nI w) (h7 : Z 7 = nI e) (h8 : Z 8 = nI T) (h9 : Z 9 = nI J) (hw : w ≤ 200) (hT2 : T ≤ 200) (hJ : J ≤ 9) (he : e ≤ 5000) (k : Nat) (hk : k ≤ 200) : w_end Z (nI k) = nI (min e (w + k * (T + J))) := by
  unfold w_end
  rw [h6, h7, h8, h9, nI_add, zz_mul, nI_add]
  have hb : k * (T + J) ≤ 200 * 209 := Nat.mul_le_mul hk (by omega)
  unfold i_min
  by_cases c : w + k * (T + J) < e
  · rw [if_pos (nI_lt c (by omega)), show min e (w + k * (T + J)) = w + k * (T + J) by omega]
  · rw [if_neg (nI_nlt (by omega) (by omega)), show min e (w + k * (T + J)) = e by omega]
theorem w_wid_n {Z : Nat → Int32} {e w T J : Nat} (h : rw_ok Z e w T J) {k : Nat} (hk : k < r_pcs e w T J) : w_wid Z (nI k) = r_B e w T J k := by
  obtain ⟨⟨h6, h7, h8, h9, -⟩, b1, b2, b3, b4, b5, b6, b7⟩ := h
  have hP := r_pcs_le (w := w) (J := J) b3 b7
  have hlt := r_pcs_lt (by omega) (by omega) hk
  have hs := r_bw w T J k
  unfold w_wid r_B r_wid
  rw [w_beg_n h6 h8 h9 k (by omega), w_end_n h6 h7 h8 h9 (by omega) b4 b5 (by omega) k (by omega), ← hs]
  by_cases c : r_beg w T J k + r_wd w T k ≤ e
  · rw [if_pos c, show min e (r_beg w T J k + r_wd w T k) = r_beg w T J k + r_wd w T k by omega, zz_sub (by omega), show r_beg w T J k + r_wd w T k - r_beg w T J k = r_wd w T k by omega]
  · rw [if_neg c, show min e (r_beg w T J k + r_wd w T k) = e by omega, zz_sub (by omega)]
theorem rw_last {Z : Nat → Int32} {e w T J : Nat} (h : rw_ok Z e w T J) : Z 10 - 1 = nI (r_pcs e w T J - 1) := by
  rw [h.1.2.2.2.2, show (1 : Int32) = nI 1 from rfl, zz_sub (by unfold r_pcs; omega)]
theorem r_pcs_pos (e w T J : Nat) : 1 ≤ r_pcs e w T J := by unfold r_pcs; omega
/-- a piece that is neither the first nor the last is a TILE -/
theorem r_mid {e w T J j : Nat} (hT : 0 < T) (he : 0 < e) (h0 : 0 < j) (h : j + 1 < r_pcs e w T J) : r_wid e w T J j = T := by
  have h1 := r_pcs_lt (T := T) (by omega) he h
  obtain ⟨k, rfl⟩ : ∃ k, j = k + 1 := ⟨j - 1, by omega⟩
  have hw : r_wd w T (k + 1) = T := if_neg (by omega)
  have h2 : r_beg w T J (k + 1 + 1) = r_beg w T J (k + 1) + (r_wd w T (k + 1) + J) := rfl
  unfold r_wid
  rw [if_pos (by omega), hw]
theorem r_wid_le {e w T J k : Nat} (hw : w ≤ T) : r_wid e w T J k ≤ T := by
  unfold r_wid
  have h : r_wd w T k ≤ T := by unfold r_wd; split <;> omega
  split <;> omega
theorem zz_cnt_snoc (p : Nat → Bool) : ∀ (m k n : Nat), zz_cnt p (m + 1) k n = if p (k + m) = true then zz_cnt p m k n + 1 else zz_cnt p m k n
  | 0, k, n => rfl
  | m + 1, k, n => by
    show zz_cnt p (m + 1) (k + 1) (if p k = true then n + 1 else n) = _
    rw [zz_cnt_snoc p m (k + 1), show k + 1 + m = k + (m + 1) by omega]
    rfl
theorem zz_cnt_none {p : Nat → Bool} : ∀ (m k n : Nat), (∀ j : Nat, k ≤ j → j < k + m → p j = false) → zz_cnt p m k n = n
  | 0, _, _, _ => rfl
  | m + 1, k, n, h => by
    show zz_cnt p m (k + 1) (if p k = true then n + 1 else n) = n
    rw [h k (Nat.le_refl k) (by omega), if_neg (by decide)]
    exact zz_cnt_none m (k + 1) n (fun j h1 h2 => h j (by omega) (by omega))
theorem zz_edges {p : Nat → Bool} {P : Nat} (hP : 1 ≤ P) (hm : ∀ j : Nat, 0 < j → j + 1 < P → p j = false) : zz_cnt p P 0 0 = (if p 0 = true then 1 else 0) + (if p (P - 1) = true ∧ 1 < P then 1 else 0) := by
  obtain ⟨m, rfl⟩ : ∃ m, P = m + 1 := ⟨P - 1, by omega⟩
  cases m with
  | zero =>
    rw [if_neg (show ¬ (p (0 + 1 - 1) = true ∧ 1 < 0 + 1) from fun q => absurd q.2 (by omega)), Nat.add_zero]
    rfl
  | succ m =>
    rw [zz_cnt_snoc, show 0 + (m + 1) = m + 1 by omega, show m + 1 + 1 - 1 = m + 1 by omega]
    have e : zz_cnt p (m + 1) 0 0 = if p 0 = true then 1 else 0 := by
      show zz_cnt p m 1 (if p 0 = true then 1 else 0) = _
      exact zz_cnt_none m 1 _ (fun j h1 h2 => hm j (by omega) (by omega))
    rw [e]
    by_cases c : p (m + 1) = true
    · rw [if_pos c, if_pos (show p (m + 1) = true ∧ 1 < m + 1 + 1 from ⟨c, by omega⟩)]
    · rw [if_neg c, if_neg (show ¬ (p (m + 1) = true ∧ 1 < m + 1 + 1) from fun q => c q.1), Nat.add_zero]
theorem w_ofE_n {Z : Nat → Int32} {P : Nat} (h10 : Z 10 = nI P) (hP : P ≤ 100) {a b : Int32} {p q : Bool} (ha : a = if p = true then 1 else 0) (hb : b = if q = true then 1 else 0) : w_ofE Z a b = nI ((if p = true then 1 else 0) + (if q = true ∧ 1 < P then 1 else 0)) := by
  unfold w_ofE
  rw [h10, ha, hb]
  have e1 : nI P ≤ 1 ↔ P ≤ 1 := nI_leI (b := 1) (by omega) (by omega)
  by_cases c : P ≤ 1
  · rw [if_pos (show (if q = true then (1 : Int32) else 0) = 0 ∨ nI P ≤ 1 from Or.inr (e1.mpr c)), if_neg (show ¬ (q = true ∧ 1 < P) from fun r => by omega)]
    cases p <;> rfl
  · have c2 : ¬ (nI P ≤ 1) := fun r => c (e1.mp r)
    cases q with
    | true =>
      rw [if_neg (show ¬ ((if true = true then (1 : Int32) else 0) = 0 ∨ nI P ≤ 1) from fun r => r.elim (by decide) c2), if_pos (show true = true ∧ 1 < P from ⟨rfl, by omega⟩)]
      cases p <;> rfl
    | false =>
      rw [if_pos (show (if false = true then (1 : Int32) else 0) = 0 ∨ nI P ≤ 1 from Or.inl rfl), if_neg (show ¬ (false = true ∧ 1 < P) from fun r => absurd r.1 (by decide))]
      cases p <;> rfl
theorem w_cuts_n {Z : Nat → Int32} {e w T J : Nat} (h : rw_ok Z e w T J) : w_cuts Z = nI (r_cuts (nI T) (r_B e w T J) (r_pcs e w T J)) := by
  have hP := r_pcs_le (w := w) (J := J) h.2.2.2.1 h.2.2.2.2.2.2.2
  have hP1 := r_pcs_pos e w T J
  have hT := h.2.2.2.1
  have hT2 := h.2.2.2.2.1
  have he := h.2.2.2.2.2.2.1
  unfold w_cuts r_cuts
  rw [rw_last h, show (0 : Int32) = nI 0 from rfl, w_wid_n h (by omega), w_wid_n h (by omega)]
  rw [zz_edges hP1 (fun j h0 h1 => decide_eq_false (fun q => q (by unfold r_B; rw [r_mid (by omega) (by omega) h0 h1]; exact nI_le (Nat.le_refl T) (by omega))))]
  have ec : ∀ x : Int32, w_cut Z x = if decide (¬ (nI T ≤ x)) = true then 1 else 0 := by
    intro x
    unfold w_cut
    rw [h.1.2.2.1]
    by_cases c : nI T ≤ x
    · rw [if_pos c, if_neg (fun q => absurd c (of_decide_eq_true q))]
    · rw [if_neg c, if_pos (decide_eq_true c)]
  exact w_ofE_n h.1.2.2.2.2 hP (ec _) (ec _)
theorem w_halves_n {Z : Nat → Int32} {e w T J : Nat} (h : rw_ok Z e w T J) : w_halves Z = nI (r_halves (nI T) (r_B e w T J) (r_pcs e w T J)) := by
  have hP := r_pcs_le (w := w) (J := J) h.2.2.2.1 h.2.2.2.2.2.2.2
  have hP1 := r_pcs_pos e w T J
  have hT := h.2.2.2.1
  have hT2 := h.2.2.2.2.1
  have he := h.2.2.2.2.2.2.1
  unfold w_halves r_halves
  rw [rw_last h, show (0 : Int32) = nI 0 from rfl, w_wid_n h (by omega), w_wid_n h (by omega)]
  rw [zz_edges hP1 (fun j h0 h1 => decide_eq_false (fun q => q (by unfold r_B; rw [r_mid (by omega) (by omega) h0 h1, show (2 : Int32) = nI 2 from rfl, zz_mul, show (3 : Int32) = nI 3 from rfl, nI_add]; exact nI_lt (by omega) (by omega))))]
  have ec : ∀ x : Int32, w_half Z x = if decide (¬ (nI T < 2 * x + 3)) = true then 1 else 0 := by
    intro x
    unfold w_half
    rw [h.1.2.2.1]
    by_cases c : nI T < 2 * x + 3
    · rw [if_pos c, if_neg (fun q => absurd c (of_decide_eq_true q))]
    · rw [if_neg c, if_pos (decide_eq_true c)]
  exact w_ofE_n h.1.2.2.2.2 hP (ec _) (ec _)
theorem zz_mn_snoc (g : Nat → Int32) : ∀ (m k : Nat) (a : Int32), zz_mn g (m + 1) k a = if zz_mn g m k a ≤ g (k + m) then zz_mn g m k a else g (k + m)
  | 0, _, _ => rfl
  | m + 1, k, a => by
    show zz_mn g (m + 1) (k + 1) (if a ≤ g k then a else g k) = _
    rw [zz_mn_snoc g m (k + 1), show k + 1 + m = k + (m + 1) by omega]
    rfl
theorem zz_mn_id {g : Nat → Int32} : ∀ (m k : Nat) (a : Int32), (∀ j : Nat, k ≤ j → j < k + m → a ≤ g j) → zz_mn g m k a = a
  | 0, _, _, _ => rfl
  | m + 1, k, a, h => by
    show zz_mn g m (k + 1) (if a ≤ g k then a else g k) = a
    rw [if_pos (h k (Nat.le_refl k) (by omega))]
    exact zz_mn_id m (k + 1) a (fun j h1 h2 => h j (by omega) (by omega))
theorem w_nar_n {Z : Nat → Int32} {e w T J : Nat} (h : rw_ok Z e w T J) : w_nar Z = r_nar (r_B e w T J) (r_pcs e w T J) := by
  have hP1 := r_pcs_pos e w T J
  have hT := h.2.2.2.1
  have hT2 := h.2.2.2.2.1
  have he := h.2.2.2.2.2.2.1
  have hwT := h.2.2.1
  unfold w_nar r_nar
  rw [rw_last h, show (0 : Int32) = nI 0 from rfl, w_wid_n h (by omega), w_wid_n h (by omega)]
  generalize hPn : r_pcs e w T J = P at hP1
  obtain ⟨m, rfl⟩ : ∃ m, P = m + 1 := ⟨P - 1, by omega⟩
  show i_min _ _ = zz_mn _ m 1 _
  rw [show m + 1 - 1 = m by omega]
  cases m with
  | zero =>
    show i_min (r_B e w T J 0) (r_B e w T J 0) = r_B e w T J 0
    unfold i_min
    split <;> rfl
  | succ m =>
    rw [zz_mn_snoc, zz_mn_id m 1 (r_B e w T J 0) (fun j h1 h2 => by
      unfold r_B
      rw [r_mid (by omega) (by omega) (show 0 < j by omega) (by omega)]
      exact nI_le (r_wid_le hwT) (by omega)), show 1 + m = m + 1 by omega]
    unfold i_min
    by_cases c : r_B e w T J (m + 1) < r_B e w T J 0
    · rw [if_pos c, if_neg (Int32.not_le.mpr c)]
    · rw [if_neg c, if_pos (Int32.not_lt.mp c)]
/-- the class lays the row that the reference lays -/
theorem c_len_m {F : Nat → Nat → Int32} {f : Nat → Int32} (hF : ∀ i : Nat, i < 7 → F 0 i = f i) (k : Int32) : c_len F k = s_mlen f k := by
  unfold c_len s_mlen i_max
  rw [hF 0 (by omega), hF 3 (by omega)]
  by_cases c : (100 : Int32) < f 0 + k * f 3
  · rw [if_pos c, if_pos (Int32.le_of_lt c)]
  · rw [if_neg c]
    by_cases c2 : (100 : Int32) ≤ f 0 + k * f 3
    · rw [if_pos c2]
      exact Int32.le_antisymm c2 (Int32.not_lt.mp c)
    · rw [if_neg c2]
theorem c_first_m {F : Nat → Nat → Int32} {f : Nat → Int32} (hF : ∀ i : Nat, i < 7 → F 0 i = f i) (hg : g_wall f) {r s : Nat} (hr : r < 8) (h1 : 1 ≤ s) (h2 : s ≤ fT f) : c_first F (nI r) (nI s) = s_mfst (upd f 6 (nI s)) (nI r) := by
  have hT := (g_TJR hg).1
  obtain ⟨L, T, J, R, B, S, h0, h1', h2', h4, h5, h6, a1, a2, a3, a4, a5, a6, a7, a8, a9, a10, k1, k2⟩ := hg
  unfold c_first s_mfst
  rw [hF 5 (by omega), hF 1 (by omega)]
  show _ = (if f 5 = 1 then (if nI r - nI r / 2 * 2 = 1 then (if nI s + f 1 / 2 ≤ f 1 then nI s + f 1 / 2 else nI s + f 1 / 2 - f 1) else (if nI s ≤ f 1 then nI s else nI s - f 1)) else (if nI s ≤ f 1 then nI s else nI s - f 1))
  have es : (if nI s ≤ f 1 then nI s else nI s - f 1) = nI s := if_pos (by rw [hT.1]; exact nI_le h2 (by omega))
  rw [es, show nI r - nI r / 2 * 2 = nI (r % 2) from zz_rem (b := 2) (by omega) (by omega), h5]
  rcases (show B = 0 ∨ B = 1 by omega) with rfl | rfl
  · rw [if_pos (show nI 0 = 0 ∨ nI (r % 2) = 0 from Or.inl rfl), if_neg (show ¬ (nI 0 = 1) by decide)]
  · rcases (show r % 2 = 0 ∨ r % 2 = 1 by omega) with e | e
    · rw [e, if_pos (show nI 1 = 0 ∨ nI 0 = 0 from Or.inr rfl), if_pos (show nI 1 = 1 from rfl), if_neg (show ¬ (nI 0 = 1) by decide)]
    · rw [e, if_neg (show ¬ (nI 1 = 0 ∨ nI 1 = 0) by decide), if_pos (show nI 1 = 1 from rfl), if_pos (show nI 1 = 1 from rfl)]
theorem c_lay_ok {F : Nat → Nat → Int32} {f : Nat → Int32} (hF : ∀ i : Nat, i < 7 → F 0 i = f i) (hg : g_wall f) (Z : Nat → Int32) {r s : Nat} (hr : r < 8) (h1 : 1 ≤ s) (h2 : s ≤ fT f) : rw_ok (c_lay Z F (nI r) (nI s)) (fe f r) (fw (upd f 6 (nI s)) r) (fT f) (fJ f) := by
  obtain ⟨hT, hJ, hR⟩ := g_TJR hg
  have hq := g_row hg hr
  have hs := (g_row (g_start hg h1 h2) hr).2
  have e6 : c_lay Z F (nI r) (nI s) 6 = nI (fw (upd f 6 (nI s)) r) := by
    show c_first F (nI r) (nI s) = _
    rw [c_first_m hF hg hr h1 h2]
    exact hs.1
  have e7 : c_lay Z F (nI r) (nI s) 7 = nI (fe f r) := by
    show c_len F (nI r) = _
    rw [c_len_m hF]
    exact hq.1.1
  have e8 : c_lay Z F (nI r) (nI s) 8 = nI (fT f) := (hF 1 (by omega)).trans hT.1
  have e9 : c_lay Z F (nI r) (nI s) 9 = nI (fJ f) := (hF 2 (by omega)).trans hJ.1
  refine ⟨⟨e6, e7, e8, e9, ?_⟩, hs.2.1, hs.2.2, hT.2.1, hT.2.2, hJ.2, hq.1.2.1, hq.1.2.2⟩
  show 1 + w_beh (w_lay4 Z (c_first F (nI r) (nI s)) (c_len F (nI r)) (F 0 1) (F 0 2)) (c_len F (nI r)) = _
  have hs2 : fw (upd f 6 (nI s)) r ≤ fT f := hs.2.2
  have e7' : c_len F (nI r) = nI (fe f r) := e7
  generalize hZ : w_lay4 Z (c_first F (nI r) (nI s)) (c_len F (nI r)) (F 0 1) (F 0 2) = Z4
  have e6 : Z4 6 = nI (fw (upd f 6 (nI s)) r) := by rw [← hZ]; exact e6
  have e8 : Z4 8 = nI (fT f) := by rw [← hZ]; exact e8
  have e9 : Z4 9 = nI (fJ f) := by rw [← hZ]; exact e9
  rw [e7', w_beh_n (w := fw (upd f 6 (nI s)) r) (T := fT f) (J := fJ f) e6 e8 e9 (by omega) hT.2.1 hT.2.2 hJ.2 (by omega), show (1 : Int32) = nI 1 from rfl, nI_add]
  rfl
end
/-! part 52.rel -/
section
/-! both halves hold the same -/
/-- the reference's row of numbers is in order -/
def g_row_ok (f : Nat → Int32) : Prop := g_wall f ∧ (∃ P : Nat, P ≤ 60 ∧ f 8 = nI P) ∧ (∃ W : Nat, W ≤ 24 ∧ f 9 = nI W) ∧ (∃ M : Nat, M ≤ 6 ∧ f 10 = nI M ∧ ∀ n : Nat, n < M → (∃ a : Nat, a < 7 ∧ f (12 + 4 * n + 0) = nI a) ∧ (∃ a : Nat, a ≤ 9 ∧ f (12 + 4 * n + 1) = nI a) ∧ (∃ a : Nat, a ≤ 4000 ∧ f (12 + 4 * n + 2) = nI a) ∧ (∃ a : Nat, 1 ≤ a ∧ a ≤ 999 ∧ f (12 + 4 * n + 3) = nI a)) ∧ r_txf0 f ∧ r_txf1 f
/-- rows from q on of the system, with z, hold what the reference's row holds (but for TEXTS) -/
def g_rel (q : Nat) (z : Int32) (N : Nat → Int32) (F : Nat → Nat → Int32) (f : Nat → Int32) : Prop := (∀ i : Nat, i < 7 → F q i = f i) ∧ z = f 7 ∧ (N (q + 5) = f 8 ∧ N (q + 8) = f 9) ∧ (N (q + 1) = f 10 ∧ N (q + 2) = f 10 ∧ N (q + 3) = f 10 ∧ N (q + 4) = f 10) ∧ (∀ n : Nat, n < (f 10).toNatClampNeg → F (q + 1) n = f (12 + 4 * n + 0) ∧ F (q + 2) n = f (12 + 4 * n + 1) ∧ F (q + 3) n = f (12 + 4 * n + 2) ∧ F (q + 4) n = f (12 + 4 * n + 3)) ∧ (∀ i : Nat, i < (f 8).toNatClampNeg → F (q + 5) i = f (286 + i)) ∧ (∀ i : Nat, i < (f 9).toNatClampNeg → F (q + 8) i = f (346 + i))
def g_sh (Z N : Nat → Int32) (F G : Nat → Nat → Int32) : Prop := ∀ k : Nat, k < 4 → Z (2 + k) = G 11 k ∧ (G 11 k = 0 ∨ G 11 k = 8 ∨ G 11 k = 16 ∨ G 11 k = 32) ∧ (∃ S : Nat, S ≤ 24 ∧ G 12 k = nI S) ∧ (¬ (G 11 k = 0) → N (19 + k) = G 12 k ∧ ∀ i : Nat, i < (G 12 k).toNatClampNeg → F (19 + k) i = G 13 (24 * k + i))
def RR (Z N : Nat → Int32) (F : Nat → Nat → Int32) (Zm : Nat → Int32) (G : Nat → Nat → Int32) : Prop := px_cw N ∧ g_row_ok (G 0) ∧ g_rel 0 (Z 0) N F (G 0) ∧ Z 21 = Zm 0 ∧ (¬ (Z 21 = 0) → g_row_ok (G 1) ∧ g_rel 9 (Z 1) N F (G 1)) ∧ g_sh Z N F G ∧ G 3 = px_K0 ∧ G 4 = px_K1 ∧ (0 ≤ Zm 6 ∧ (Zm 6).toInt ≤ 30) ∧ TX Z N F G
theorem g_rel_sc {q : Nat} (hq : q = 0 ∨ q = 9) {z : Int32} {Z N Z' N' : Nat → Int32} {F F' : Nat → Nat → Int32} {f : Nat → Int32} (h : g_rel q z N F f) (hs : px_sc Z N F Z' N' F') : g_rel q z N' F' f := by
  obtain ⟨a1, a2, ⟨a3, a4⟩, ⟨a5, a6, a7, a8⟩, a9, a10, a11⟩ := h
  have eN : ∀ i : Nat, i ≤ 8 → N' (q + i) = N (q + i) := fun i hi => hs.2.1 _ (by omega)
  have eF : ∀ i : Nat, i ≤ 8 → F' (q + i) = F (q + i) := fun i hi => hs.2.2.1 _ (by omega)
  have e0 : F' q = F q := eF 0 (by omega)
  rw [g_rel, e0, eN 5 (by omega), eN 8 (by omega), eN 1 (by omega), eN 2 (by omega), eN 3 (by omega), eN 4 (by omega), eF 1 (by omega), eF 2 (by omega), eF 3 (by omega), eF 4 (by omega), eF 5 (by omega), eF 8 (by omega)]
  exact ⟨a1, a2, ⟨a3, a4⟩, ⟨a5, a6, a7, a8⟩, a9, a10, a11⟩
/-- scratch matters to neither -/
theorem RR.sc {Z N Z' N' Zm Zm' : Nat → Int32} {F F' G G' : Nat → Nat → Int32} (h : RR Z N F Zm G) (hs : px_sc Z N F Z' N' F') (hm : px_sm Zm G Zm' G') : RR Z' N' F' Zm' G' := by
  obtain ⟨b0, b1, b2, b3, b4, b5, b6, b7, b8⟩ := h
  obtain ⟨m0, m1, m2, m3, m4, m5, m6, m7, m8⟩ := hm
  have z0 : Z' 0 = Z 0 := hs.1 0 (by omega)
  have z1 : Z' 1 = Z 1 := hs.1 1 (by omega)
  have z21 : Z' 21 = Z 21 := hs.1 21 (by omega)
  refine ⟨hs.2.2.2 b0, by rw [m2]; exact b1, by rw [m2, z0]; exact g_rel_sc (Or.inl rfl) b2 hs, by rw [z21, m0]; exact b3, ?_, ?_, by rw [m4]; exact b6, by rw [m5]; exact b7, m1 b8.1, b8.2.cg z21 (fun q hq => hs.2.1 q (by omega)) (fun q hq => hs.2.2.1 q (by omega)) (fun j _ => by rw [m2]) m3⟩
  · rw [z21, m3, z1]
    exact fun hz => ⟨(b4 hz).1, g_rel_sc (Or.inr rfl) (b4 hz).2 hs⟩
  · intro k hk
    rw [m6, m7, m8, hs.1 (2 + k) (by omega), hs.2.1 (19 + k) (by omega), hs.2.2.1 (19 + k) (by omega)]
    exact b5 k hk
theorem px_PM.ex {d j : Nat} {as : List Value} {h : px_H} {Q : Option Value → px_H → Prop} (hp : px_PM d j as h Q) : ∃ v h', Q v h' ∧ ∀ d2 : Nat, d ≤ d2 → px_PM d2 j as h (fun r h2 => r = v ∧ h2 = h') := by
  obtain ⟨n, v, h', h1, h2⟩ := hp
  exact ⟨v, h', h2, fun d2 hd => ⟨n, v, h', px_mono hd (Nat.le_refl n) h1, rfl, rfl⟩⟩
/-- one call of both: they return, what they hold stays the same; c: the answers are equal -/
def px_st (jc jm : Nat) (as : List Value) (c : Prop) : Prop := ∀ (Z N : Nat → Int32) (F : Nat → Nat → Int32) (Zm : Nat → Int32) (G : Nat → Nat → Int32), RR Z N F Zm G → ∃ (a b : Int32) (Z' N' : Nat → Int32) (F' : Nat → Nat → Int32) (Zm' : Nat → Int32) (G' : Nat → Nat → Int32), px_PM 50 jc (.ref 0 :: as) (px_CH Z N F, []) (fun r h' => r = some (.int a) ∧ h' = (px_CH Z' N' F', [])) ∧ px_PM 50 jm (.ref 1000 :: as) ([], px_MH Zm G) (fun r h' => r = some (.int b) ∧ h' = ([], px_MH Zm' G')) ∧ RR Z' N' F' Zm' G' ∧ (c → a = b)
/-- from both contracts: a call whose state goes to (Z1, N1, F1) and (Zm1, G1), scratch aside -/
theorem px_st_of {jc jm d1 d2 : Nat} {as : List Value} {c : Prop} {Z N Z1 N1 Zm Zm1 : Nat → Int32} {F F1 G G1 : Nat → Nat → Int32} {a b : Int32} (hc : px_PM d1 jc (.ref 0 :: as) (px_CH Z N F, []) (fun r h' => r = some (.int a) ∧ ∃ Z' N' F', px_sc Z1 N1 F1 Z' N' F' ∧ h' = (px_CH Z' N' F', []))) (hd1 : d1 ≤ 50) (hm : px_PM d2 jm (.ref 1000 :: as) ([], px_MH Zm G) (fun r h' => r = some (.int b) ∧ ∃ Z' F', px_sm Zm1 G1 Z' F' ∧ h' = ([], px_MH Z' F'))) (hd2 : d2 ≤ 50) (hR : RR Z1 N1 F1 Zm1 G1) (he : c → a = b) :
    ∃ (a b : Int32) (Z' N' : Nat → Int32) (F' : Nat → Nat → Int32) (Zm' : Nat → Int32) (G' : Nat → Nat → Int32), px_PM 50 jc (.ref 0 :: as) (px_CH Z N F, []) (fun r h' => r = some (.int a) ∧ h' = (px_CH Z' N' F', [])) ∧ px_PM 50 jm (.ref 1000 :: as) ([], px_MH Zm G) (fun r h' => r = some (.int b) ∧ h' = ([], px_MH Zm' G')) ∧ RR Z' N' F' Zm' G' ∧ (c → a = b) := by
  obtain ⟨v, h', ⟨rfl, Z', N', F', hs, rfl⟩, hp⟩ := hc.ex
  obtain ⟨v2, h2, ⟨rfl, Zm', G', hs2, rfl⟩, hp2⟩ := hm.ex
  exact ⟨a, b, Z', N', F', Zm', G', hp 50 hd1, hp2 50 hd2, hR.sc hs hs2, he⟩
theorem RR.tt {Z N Zm : Nat → Int32} {F G : Nat → Nat → Int32} (h : RR Z N F Zm G) : g_tt 0 N F (G 0) := h.2.2.2.2.2.2.2.2.2.1
theorem RR.tk {Z N Zm : Nat → Int32} {F G : Nat → Nat → Int32} (h : RR Z N F Zm G) (hz : ¬ (Z 21 = 0)) : g_tt 9 N F (G 1) := h.2.2.2.2.2.2.2.2.2.2 hz
theorem RR.hT {Z N Zm : Nat → Int32} {F G : Nat → Nat → Int32} (h : RR Z N F Zm G) : N 2 = N 1 ∧ N 3 = N 1 ∧ N 4 = N 1 := by
  obtain ⟨-, -, ⟨-, -, -, ⟨a5, a6, a7, a8⟩, -⟩, -⟩ := h
  exact ⟨a6.trans a5.symm, a7.trans a5.symm, a8.trans a5.symm⟩
theorem RR.M {Z N Zm : Nat → Int32} {F G : Nat → Nat → Int32} (h : RR Z N F Zm G) : G 0 10 = nI (G 0 10).toNatClampNeg ∧ (G 0 10).toNatClampNeg ≤ 6 ∧ N 1 = nI (G 0 10).toNatClampNeg ∧ N 3 = nI (G 0 10).toNatClampNeg := by
  obtain ⟨-, ⟨-, -, -, ⟨M, hM, e, -⟩, -⟩, ⟨-, -, -, ⟨a5, a6, a7, a8⟩, -⟩, -⟩ := h
  rw [a5, a7, e, nI_clamp (by omega)]
  exact ⟨rfl, hM, rfl, rfl⟩
theorem RR.wall {Z N Zm : Nat → Int32} {F G : Nat → Nat → Int32} (h : RR Z N F Zm G) : g_wall (G 0) := h.2.1.1
theorem RR.F0 {Z N Zm : Nat → Int32} {F G : Nat → Nat → Int32} (h : RR Z N F Zm G) {i : Nat} (hi : i < 7) : F 0 i = G 0 i := h.2.2.1.1 i hi
theorem px_neg {x : Int32} : ¬ (x < 0) ↔ 0 ≤ x := Int32.not_lt
theorem px_out {x lo hi : Int32} : ¬ (x < lo ∨ hi < x) ↔ lo ≤ x ∧ x ≤ hi := by
  rw [not_or, Int32.not_lt, Int32.not_lt]
/-- a THING's number, asked of both -/
theorem px_thq {x t : Int32} {M : Nat} (hM : x = nI M) (hM6 : M ≤ 6) : ¬ (t < 0 ∨ x ≤ t) ↔ 0 ≤ t ∧ t ≤ x - 1 := by
  subst hM
  rw [not_or, Int32.not_lt, Int32.not_le]
  constructor
  · intro h
    refine ⟨h.1, ?_⟩
    obtain ⟨n, hn, rfl⟩ := nI_of (Int32.not_lt.mpr h.1)
    have h2 := (nI_ltI (by omega) (by omega)).mp h.2
    exact px_pred h2 (by omega)
  · intro h
    refine ⟨h.1, ?_⟩
    have g := px_inS (x := nI M) rfl (by omega) h
    rw [g.1]
    exact nI_lt g.2 (by omega)
theorem st_wallIs (what : Int32) : px_st 50 159 [.int what] True := by
  intro Z N F Zm G h
  refine px_st_of (kc_wallIs h.1 what) (by decide) (kc_mwallIs what) (by decide) h (fun _ => ?_)
  unfold s_wallIs s_mwallIs
  by_cases c : 0 ≤ what ∧ what ≤ 6
  · obtain ⟨e, hl⟩ := px_in5 (n := 6) (by decide) c
    rw [if_pos c, if_neg (Int32.not_lt.mpr c.1), if_pos c.2]
    exact h.F0 hl
  · rw [if_neg c]
    by_cases c1 : what < 0
    · rw [if_pos c1]
    · rw [if_neg c1, if_neg (fun q => c ⟨Int32.not_lt.mp c1, q⟩)]
theorem st_thingIs (thing what : Int32) : px_st 53 163 [.int thing, .int what] True := by
  intro Z N F Zm G h
  have hM := h.M
  refine px_st_of (kc_thingIs h.1 h.hT thing what) (by decide) (kc_mthingIs hM.1 hM.2.1 thing what) (by decide) h (fun _ => ?_)
  unfold s_thingIs s_mthingIs
  have hq := px_thq (t := thing) hM.1 hM.2.1
  have e1 : N 1 = G 0 10 := h.2.2.1.2.2.2.1.1
  rw [e1]
  by_cases c : thing < 0 ∨ G 0 10 ≤ thing
  · rw [if_pos c, if_neg (fun q => hq.mpr q c)]
  · have c2 := hq.mp c
    obtain ⟨e, hl, -⟩ := px_thN hM.1 hM.2.1 c2
    rw [if_neg c, if_pos c2]
    have hr := h.2.2.1.2.2.2.2.1 _ hl
    by_cases cw : 0 ≤ what ∧ what ≤ 3
    · rw [if_pos cw]
      obtain ⟨ew, hw⟩ := px_in5 (n := 3) (by decide) cw
      generalize what.toNatClampNeg = k at ew hw
      subst ew
      rcases (show k = 0 ∨ k = 1 ∨ k = 2 ∨ k = 3 by omega) with rfl | rfl | rfl | rfl
      · exact hr.1
      · exact hr.2.1
      · exact hr.2.2.1
      · exact hr.2.2.2
    · rw [if_neg cw]
      rw [if_neg (fun q => cw (by rw [q]; decide)), if_neg (fun q => cw (by rw [q]; decide)), if_neg (fun q => cw (by rw [q]; decide)), if_neg (fun q => cw (by rw [q]; decide))]
theorem st_count (what : Int32) : px_st 84 205 [.int what] (¬ (what = 4)) := by
  intro Z N F Zm G h
  refine px_st_of (kc_count h.1 what) (by decide) (kc_mcount what) (by decide) h (fun c4 => ?_)
  unfold s_count s_mcount
  obtain ⟨-, -, ⟨a1, a2, ⟨a3, a4⟩, ⟨a5, -⟩, -⟩, -⟩ := h
  rw [if_neg c4, if_neg c4, a5, a1 6 (by omega), a3, a4, a2]
end
/-! part 53.set -/
section
/-! calls that change the wall, z, things -/
theorem r_txf_congr {f g : Nat → Int32} (he : ∀ j : Nat, 36 ≤ j → j < 286 → g j = f j) (h0 : r_txf0 f) (h1 : r_txf1 f) : r_txf0 g ∧ r_txf1 g := by
  have key : ∀ (b : Nat) (ok : Int32 → Prop), (b = 36 ∨ b = 161) → (f b = 0 ∨ ∃ n : Nat, n ≤ 62 ∧ f b = nI n ∧ r_wf ok (fun k => f (b + 1 + 2 * k)) (fun k => f (b + 2 + 2 * k)) n 0 0) → (g b = 0 ∨ ∃ n : Nat, n ≤ 62 ∧ g b = nI n ∧ r_wf ok (fun k => g (b + 1 + 2 * k)) (fun k => g (b + 2 + 2 * k)) n 0 0) := by
    intro b ok hb hh
    rw [he b (by omega) (by omega)]
    rcases hh with hh | ⟨n, h1, h2, h3⟩
    · exact Or.inl hh
    · refine Or.inr ⟨n, h1, h2, ?_⟩
      have cg : ∀ (m k d : Nat), k + m ≤ 62 → r_wf ok (fun k => f (b + 1 + 2 * k)) (fun k => f (b + 2 + 2 * k)) m k d → r_wf ok (fun k => g (b + 1 + 2 * k)) (fun k => g (b + 2 + 2 * k)) m k d := by
        intro m
        induction m with
        | zero => exact fun _ _ _ q => q
        | succ m ih =>
          intro k d hk hw
          show (g (b + 1 + 2 * k) = 0 ∧ _) ∨ (g (b + 1 + 2 * k) = 1 ∧ ok (g (b + 2 + 2 * k)) ∧ _) ∨ (g (b + 1 + 2 * k) = 2 ∧ _) ∨ (g (b + 1 + 2 * k) = 3 ∧ _)
          rw [he (b + 1 + 2 * k) (by omega) (by omega), he (b + 2 + 2 * k) (by omega) (by omega)]
          rcases hw with q | q | q | q
          · exact Or.inl ⟨q.1, ih (k + 1) (d + 1) (by omega) q.2⟩
          · exact Or.inr (Or.inl ⟨q.1, q.2.1, ih (k + 1) (d + 1) (by omega) q.2.2⟩)
          · exact Or.inr (Or.inr (Or.inl ⟨q.1, q.2.1, ih (k + 1) d (by omega) q.2.2⟩))
          · exact Or.inr (Or.inr (Or.inr ⟨q.1, q.2.1, ih (k + 1) (d - 1) (by omega) q.2.2⟩))
      exact cg n 0 0 (by omega) h3
  exact ⟨key 36 r_ok0 (Or.inl rfl) h0, key 161 r_ok1 (Or.inr rfl) h1⟩
/-- only the wall, or z, changes -/
theorem g_row_lo {f g : Nat → Int32} (he : ∀ j : Nat, 8 ≤ j → g j = f j) (h : g_row_ok f) (hw : g_wall g) : g_row_ok g := by
  obtain ⟨-, ⟨P, p1, p2⟩, ⟨W, w1, w2⟩, ⟨M, m1, m2, m3⟩, t0, t1⟩ := h
  have ht := r_txf_congr (g := g) (fun j h1 h2 => he j (by omega)) t0 t1
  refine ⟨hw, ⟨P, p1, (he 8 (by omega)).trans p2⟩, ⟨W, w1, (he 9 (by omega)).trans w2⟩, ⟨M, m1, (he 10 (by omega)).trans m2, fun n hn => ?_⟩, ht.1, ht.2⟩
  rw [he _ (by omega), he _ (by omega), he _ (by omega), he _ (by omega)]
  exact m3 n hn
theorem g_rel_lo {z z2 : Int32} {N : Nat → Int32} {F : Nat → Nat → Int32} {r f g : Nat → Int32} (h : g_rel 0 z N F f) (hz : z2 = g 7) (he : ∀ j : Nat, 8 ≤ j → g j = f j) (hr : ∀ i : Nat, i < 7 → r i = g i) : g_rel 0 z2 N (va_up F 0 r) g := by
  obtain ⟨a1, a2, ⟨a3, a4⟩, ⟨a5, a6, a7, a8⟩, a9, a10, a11⟩ := h
  refine ⟨hr, hz, ?_, ?_, ?_, ?_, ?_⟩
  · rw [he 8 (by omega), he 9 (by omega)]; exact ⟨a3, a4⟩
  · rw [he 10 (by omega)]; exact ⟨a5, a6, a7, a8⟩
  · rw [he 10 (by omega)]
    intro n hn
    rw [he _ (by omega), he _ (by omega), he _ (by omega), he _ (by omega)]
    exact a9 n hn
  · rw [he 8 (by omega)]
    intro n hn
    rw [he _ (by omega)]
    exact a10 n hn
  · rw [he 9 (by omega)]
    intro n hn
    rw [he _ (by omega)]
    exact a11 n hn
/-- what lies beside the row now, is kept when only the rows now change -/
theorem g_rel_far {z : Int32} {N N' : Nat → Int32} {F F' : Nat → Nat → Int32} {f : Nat → Int32} (h : g_rel 9 z N F f) (hN : ∀ j : Nat, 9 ≤ j → j ≤ 17 → N' j = N j) (hF : ∀ j : Nat, 9 ≤ j → j ≤ 17 → F' j = F j) : g_rel 9 z N' F' f := by
  obtain ⟨a1, a2, ⟨a3, a4⟩, ⟨a5, a6, a7, a8⟩, a9, a10, a11⟩ := h
  refine ⟨?_, a2, ?_, ?_, ?_, ?_, ?_⟩
  · rw [hF 9 (by omega) (by omega)]; exact a1
  · rw [hN (9 + 5) (by omega) (by omega), hN (9 + 8) (by omega) (by omega)]; exact ⟨a3, a4⟩
  · rw [hN (9 + 1) (by omega) (by omega), hN (9 + 2) (by omega) (by omega), hN (9 + 3) (by omega) (by omega), hN (9 + 4) (by omega) (by omega)]; exact ⟨a5, a6, a7, a8⟩
  · rw [hF (9 + 1) (by omega) (by omega), hF (9 + 2) (by omega) (by omega), hF (9 + 3) (by omega) (by omega), hF (9 + 4) (by omega) (by omega)]; exact a9
  · rw [hF (9 + 5) (by omega) (by omega)]; exact a10
  · rw [hF (9 + 8) (by omega) (by omega)]; exact a11
theorem g_sh_far {Z N Z' N' : Nat → Int32} {F F' G G' : Nat → Nat → Int32} (h : g_sh Z N F G) (hZ : ∀ j : Nat, 2 ≤ j → j ≤ 5 → Z' j = Z j) (hN : ∀ j : Nat, 19 ≤ j → j ≤ 22 → N' j = N j) (hF : ∀ j : Nat, 19 ≤ j → j ≤ 22 → F' j = F j) (hG : G' 11 = G 11 ∧ G' 12 = G 12 ∧ G' 13 = G 13) : g_sh Z' N' F' G' := by
  intro k hk
  rw [hZ (2 + k) (by omega) (by omega), hN (19 + k) (by omega) (by omega), hF (19 + k) (by omega) (by omega), hG.1, hG.2.1, hG.2.2]
  exact h k hk
theorem RR.wrow {Z N Zm : Nat → Int32} {F G : Nat → Nat → Int32} (h : RR Z N F Zm G) {r g : Nat → Int32} (he : ∀ j : Nat, 7 ≤ j → g j = G 0 j) (hr : ∀ i : Nat, i < 7 → r i = g i) (hw : g_wall g) : RR Z N (va_up F 0 r) Zm (va_up G 0 g) := by
  obtain ⟨b0, b1, b2, b3, b4, b5, b6, b7, b8⟩ := h
  exact ⟨b0, g_row_lo (fun j hj => he j (by omega)) b1 hw, g_rel_lo b2 (b2.2.1.trans (he 7 (by omega)).symm) (fun j hj => he j (by omega)) hr, b3, fun hz => ⟨(b4 hz).1, g_rel_far (b4 hz).2 (fun _ _ _ => rfl) (fun j h1 h2 => px_up_ne F _ (by omega))⟩, g_sh_far b5 (fun _ _ _ => rfl) (fun _ _ _ => rfl) (fun j h1 h2 => px_up_ne F _ (by omega)) ⟨rfl, rfl, rfl⟩, b6, b7, b8.1, b8.2.cg rfl (fun _ _ => rfl) (fun q hq => px_up_ne F _ (by omega)) (fun j hj => he j (by omega)) rfl⟩
theorem RR.wset {Z N Zm : Nat → Int32} {F G : Nat → Nat → Int32} (h : RR Z N F Zm G) {i : Nat} (hi : i < 7) (v : Int32) (hw : g_wall (upd (G 0) i v)) : RR Z N (va_up F 0 (upd (F 0) i v)) Zm (va_up G 0 (upd (G 0) i v)) := by
  refine h.wrow (fun j hj => px_upd_ne _ v (by omega)) (fun j hj => ?_) hw
  unfold upd
  split
  · rfl
  · exact h.F0 hj
theorem st_begin (first : Int32) : px_st 51 160 [.int first] True := by
  intro Z N F Zm G h
  have hT := (g_TJR h.wall).1
  by_cases c : 1 ≤ first ∧ first ≤ G 0 1
  · have ec : s_begin Z N F first = (F 0 6, Z, N, va_up F 0 (upd (F 0) 6 first)) := (if_neg (Int32.not_lt.mpr c.1)).trans (if_pos (show first ≤ F 0 1 by rw [h.F0 (by omega)]; exact c.2))
    have em : s_mbegin Zm G first = (G 0 6, Zm, va_up G 0 (upd (G 0) 6 first)) := if_pos c
    have hc := kc_begin (Z := Z) (F := F) h.1 first
    have hm := kc_mbegin (Z := Zm) (F := G) first
    rw [ec] at hc
    rw [em] at hm
    have hs : ∃ s : Nat, 1 ≤ s ∧ s ≤ fT (G 0) ∧ first = nI s := by
      have c2 := c.2
      rw [hT.1] at c2
      obtain ⟨e, hl⟩ := px_in5 (n := fT (G 0)) (by omega) ⟨Int32.le_trans (by decide) c.1, c2⟩
      refine ⟨first.toNatClampNeg, ?_, by omega, e⟩
      have c1 := c.1
      rw [e] at c1
      exact (nI_leI (a := 1) (by omega) (by omega)).mp c1
    obtain ⟨s, s1, s2, rfl⟩ := hs
    exact px_st_of hc (by decide) hm (by decide) (h.wset (by omega) _ (g_start h.wall s1 s2)) (fun _ => h.F0 (by omega))
  · have ec : s_begin Z N F first = (-1000000000 - 1, Z, N, F) := by
      unfold s_begin
      rw [h.F0 (show 1 < 7 by omega)]
      by_cases c1 : first < 1
      · rw [if_pos c1]
      · rw [if_neg c1, if_neg (fun q => c ⟨Int32.not_lt.mp c1, q⟩)]
    have em : s_mbegin Zm G first = (-1000000000 - 1, Zm, G) := if_neg c
    have hc := kc_begin (Z := Z) (F := F) h.1 first
    have hm := kc_mbegin (Z := Zm) (F := G) first
    rw [ec] at hc
    rw [em] at hm
    exact px_st_of hc (by decide) hm (by decide) h (fun _ => rfl)
theorem st_seed (v : Int32) : px_st 66 175 [.int v] True := by
  intro Z N F Zm G h
  have hR : RR (upd Z 0 v) N F Zm (va_up G 0 (upd (G 0) 7 v)) := by
    obtain ⟨b0, b1, b2, b3, b4, b5, b6, b7, b8⟩ := h
    have e : ∀ j : Nat, j ≠ 7 → upd (G 0) 7 v j = G 0 j := fun j hj => px_upd_ne _ v hj
    have g := g_rel_lo (z2 := v) (r := F 0) (g := upd (G 0) 7 v) b2 rfl (fun j hj => e j (by omega)) (fun i hi => (b2.1 i hi).trans (e i (by omega)).symm)
    rw [px_up_id] at g
    exact ⟨b0, g_row_lo (fun j hj => e j (by omega)) b1 b1.1, g, b3, b4, g_sh_far b5 (fun j h1 h2 => px_upd_ne Z v (by omega)) (fun _ _ _ => rfl) (fun _ _ _ => rfl) ⟨rfl, rfl, rfl⟩, b6, b7, b8.1, b8.2.cg (px_upd_ne Z v (by omega)) (fun _ _ => rfl) (fun _ _ => rfl) (fun j hj => e j (by omega)) rfl⟩
  exact px_st_of (kc_seed h.1 v) (by decide) (kc_mseed v) (by decide) hR (fun _ => h.2.2.1.2.1)
theorem zz_rng {v : Int32} {a b : Nat} (ha : a ≤ b) (hb : b < 100000) (h1 : nI a ≤ v) (h2 : v ≤ nI b) : ∃ n : Nat, a ≤ n ∧ n ≤ b ∧ v = nI n := by
  obtain ⟨n, hn, rfl⟩ := nI_of (Int32.not_lt.mpr (Int32.le_trans (nI_pos' (n := a) (by omega)) h1))
  exact ⟨n, (nI_leI (by omega) (by omega)).mp h1, (nI_leI (by omega) (by omega)).mp h2, rfl⟩
/-- a number of the wall changes within its bounds -/
theorem g_wall_set {f : Nat → Int32} (h : g_wall f) {w : Nat} (hw : w < 6) {v : Int32} (h1 : px_K0 w ≤ v) (h2 : v ≤ px_K1 w) : (w ≠ 1 → g_wall (upd f w v)) ∧ (w = 1 → g_wall (upd (upd f 6 v) 1 v)) := by
  obtain ⟨L, T, J, R, B, S, h0, h1', h2', h4, h5, h6, a1, a2, a3, a4, a5, a6, a7, a8, a9, a10, k1, k2⟩ := h
  rcases (show w = 0 ∨ w = 1 ∨ w = 2 ∨ w = 3 ∨ w = 4 ∨ w = 5 by omega) with rfl | rfl | rfl | rfl | rfl | rfl
  · obtain ⟨n, n1, n2, rfl⟩ := zz_rng (a := 100) (b := 4000) (by omega) (by omega) h1 h2
    exact ⟨fun _ => ⟨n, T, J, R, B, S, rfl, h1', h2', h4, h5, h6, n1, n2, a3, a4, a5, a6, a7, a8, a9, a10, k1, k2⟩, fun q => absurd q (by omega)⟩
  · obtain ⟨n, n1, n2, rfl⟩ := zz_rng (a := 50) (b := 200) (by omega) (by omega) h1 h2
    exact ⟨fun q => absurd rfl q, fun _ => ⟨L, n, J, R, B, n, h0, rfl, h2', h4, h5, rfl, a1, a2, n1, n2, a5, a6, a7, a8, by omega, Nat.le_refl n, k1, k2⟩⟩
  · obtain ⟨n, n1, n2, rfl⟩ := zz_rng (a := 0) (b := 9) (by omega) (by omega) h1 h2
    exact ⟨fun _ => ⟨L, T, n, R, B, S, h0, h1', rfl, h4, h5, h6, a1, a2, a3, a4, n2, a6, a7, a8, a9, a10, k1, k2⟩, fun q => absurd q (by omega)⟩
  · rw [Int32.le_iff_toInt_le, show (px_K0 3).toInt = -9 from rfl] at h1
    rw [Int32.le_iff_toInt_le, show (px_K1 3).toInt = 9 from rfl] at h2
    exact ⟨fun _ => ⟨L, T, J, R, B, S, h0, h1', h2', h4, h5, h6, a1, a2, a3, a4, a5, a6, a7, a8, a9, a10, h1, h2⟩, fun q => absurd q (by omega)⟩
  · obtain ⟨n, n1, n2, rfl⟩ := zz_rng (a := 1) (b := 8) (by omega) (by omega) h1 h2
    exact ⟨fun _ => ⟨L, T, J, n, B, S, h0, h1', h2', rfl, h5, h6, a1, a2, a3, a4, a5, n1, n2, a8, a9, a10, k1, k2⟩, fun q => absurd q (by omega)⟩
  · obtain ⟨n, n1, n2, rfl⟩ := zz_rng (a := 0) (b := 1) (by omega) (by omega) h1 h2
    exact ⟨fun _ => ⟨L, T, J, R, n, S, h0, h1', h2', h4, rfl, h6, a1, a2, a3, a4, a5, a6, a7, n2, a9, a10, k1, k2⟩, fun q => absurd q (by omega)⟩
theorem st_wall (what v : Int32) : px_st 49 158 [.int what, .int v] True := by
  intro Z N F Zm G h
  have hc := kc_wall (Z := Z) (F := F) h.1 what v
  have hm := kc_mwall (Z := Zm) (F := G) what v
  have g3 := h.2.2.2.2.2.2.1
  have g4 := h.2.2.2.2.2.2.2.1
  have bad : s_wall Z N F what v = (-1000000000 - 1, Z, N, F) → s_mwall Zm G what v = (-1000000000 - 1, Zm, G) → _ := fun ec em => by
    rw [ec] at hc
    rw [em] at hm
    exact px_st_of (c := True) hc (by decide) hm (by decide) h (fun _ => rfl)
  by_cases c : 0 ≤ what ∧ what ≤ 5
  · obtain ⟨e, hl⟩ := px_in5 (n := 5) (by decide) c
    by_cases cv : px_K0 what.toNatClampNeg ≤ v ∧ v ≤ px_K1 what.toNatClampNeg
    · have hg := g_wall_set h.wall hl cv.1 cv.2
      by_cases c1 : what = 1
      · subst c1
        have ec : s_wall Z N F 1 v = (F 0 1, Z, N, va_up F 0 (upd (upd (F 0) 1 v) 6 v)) := by
          rw [show s_wall Z N F 1 v = (F 0 1, Z, N, va_up (va_up F 0 (upd (F 0) 1 v)) 0 (upd (upd (F 0) 1 v) 6 v)) from (if_neg (by decide)).trans ((if_neg (by decide)).trans ((if_neg (Int32.not_lt.mpr cv.1)).trans ((if_pos cv.2).trans (if_pos rfl)))), px_up_up]
        have em : s_mwall Zm G 1 v = (G 0 1, Zm, va_up G 0 (upd (upd (G 0) 6 v) 1 v)) := by
          rw [show s_mwall Zm G 1 v = (upd (G 0) 6 v 1, Zm, va_up (va_up G 0 (upd (G 0) 6 v)) 0 (upd (upd (G 0) 6 v) 1 v)) from (if_pos c).trans ((if_pos (show G 3 (1 : Int32).toNatClampNeg ≤ v ∧ v ≤ G 4 (1 : Int32).toNatClampNeg by rw [g3, g4]; exact cv)).trans (if_pos rfl)), px_up_up]
          rfl
        rw [ec] at hc
        rw [em] at hm
        refine px_st_of (c := True) hc (by decide) hm (by decide) (h.wrow (fun j hj => ?_) (fun i hi => ?_) (hg.2 rfl)) (fun _ => h.F0 (by omega))
        · rw [px_upd_ne _ _ (by omega), px_upd_ne _ _ (by omega)]
        · rw [zz_ux (G 0) (show 6 ≠ 1 by decide)]
          unfold upd
          split
          · rfl
          · split
            · rfl
            · exact h.F0 hi
      · have hw1 : what.toNatClampNeg ≠ 1 := fun q => c1 (by rw [e, q]; rfl)
        have ec : s_wall Z N F what v = (F 0 what.toNatClampNeg, Z, N, va_up F 0 (upd (F 0) what.toNatClampNeg v)) := (if_neg (Int32.not_lt.mpr c.1)).trans ((if_neg (Int32.not_lt.mpr c.2)).trans ((if_neg (Int32.not_lt.mpr cv.1)).trans ((if_pos cv.2).trans (if_neg c1))))
        have em : s_mwall Zm G what v = (G 0 what.toNatClampNeg, Zm, va_up G 0 (upd (G 0) what.toNatClampNeg v)) := by
          rw [show s_mwall Zm G what v = ((upd (G 0) 6 (G 0 6)) what.toNatClampNeg, Zm, va_up (va_up G 0 (upd (G 0) 6 (G 0 6))) 0 (upd (upd (G 0) 6 (G 0 6)) what.toNatClampNeg v)) from (if_pos c).trans ((if_pos (show G 3 what.toNatClampNeg ≤ v ∧ v ≤ G 4 what.toNatClampNeg by rw [g3, g4]; exact cv)).trans (if_neg c1)), zz_ui, px_up_up]
        rw [ec] at hc
        rw [em] at hm
        exact px_st_of (c := True) hc (by decide) hm (by decide) (h.wset (by omega) v (hg.1 hw1)) (fun _ => h.F0 (by omega))
    · refine bad ?_ ((if_pos c).trans (if_neg (by rw [g3, g4]; exact cv)))
      unfold s_wall
      rw [if_neg (Int32.not_lt.mpr c.1), if_neg (Int32.not_lt.mpr c.2)]
      by_cases c2 : v < px_K0 what.toNatClampNeg
      · rw [if_pos c2]
      · rw [if_neg c2, if_neg (fun q => cv ⟨Int32.not_lt.mp c2, q⟩)]
  · refine bad ?_ (if_neg c)
    unfold s_wall
    by_cases c2 : what < 0
    · rw [if_pos c2]
    · rw [if_neg c2, if_pos (Int32.not_le.mp (fun q => c ⟨Int32.not_lt.mp c2, q⟩))]
end
