/-! THE REFERENCE'S READER OF TEXTS: a relation, closed under one rule for each road (66.t2: mtext.py) -/
abbrev m_L : Type := List (Int32 × Int32)
def m_lk (P : Nat) (T : Nat → Int32) (a : Nat) : Int32 := if a < P then T a else -1
abbrev m_nm (u : Nat) (c : Int32) : Prop := (u = 0 ∧ (c = 116 ∨ c = 99 ∨ c = 119)) ∨ (u = 1 ∧ (c = 110 ∨ c = 104 ∨ c = 107))
abbrev m_dg (c : Int32) : Prop := 48 ≤ c ∧ c ≤ 57
def m_sg (L : Nat) (c : Int32) : Prop := (L = 0 ∧ c = 124) ∨ (L = 1 ∧ c = 38) ∨ (L = 3 ∧ (c = 43 ∨ c = 45)) ∨ (L = 4 ∧ (c = 42 ∨ c = 47 ∨ c = 37))
def m_cp (c : Int32) : Prop := c = 60 ∨ c = 61 ∨ c = 62
def m_bin (L : Nat) : Prop := L = 0 ∨ L = 1 ∨ L = 3 ∨ L = 4
/-- digits, so many at most: what they are, and where they end -/
def m_dig (P : Nat) (T : Nat → Int32) : Nat → Nat → Int32 → Int32 × Nat
  | 0, a, v => (v, a)
  | n + 1, a, v => if m_dg (m_lk P T a) then m_dig P T n (a + 1) (10 * v + m_lk P T a - 48) else (v, a)
abbrev m_T : Type := Nat → Nat → Nat → m_L → Bool → Nat → Nat → m_L → Prop
def m_C (P : Nat) (T : Nat → Int32) (u : Nat) (R : m_T) : Prop := (∀ (L : Nat) (a o : Nat) (l : m_L) (a' o' : Nat) (l' : m_L), m_bin L → R (L + 1) a o l false a' o' l' → R L a o l false a' o' l') ∧ (∀ (L : Nat) (a o : Nat) (l : m_L) (a1 o1 : Nat) (l1 : m_L) (b : Bool) (a' o' : Nat) (l' : m_L), m_bin L → R (L + 1) a o l true a1 o1 l1 → R (L + 10) a1 o1 l1 b a' o' l' → R L a o l b a' o' l') ∧ (∀ (L : Nat) (a o : Nat) (l : m_L), m_bin L → ¬ m_sg L (m_lk P T a) → R (L + 10) a o l true a o l) ∧ (∀ (L : Nat) (a o : Nat) (l : m_L) (a' o' : Nat) (l' : m_L), m_bin L → m_sg L (m_lk P T a) → R (L + 1) (a + 1) o l false a' o' l' → R (L + 10) a o l false a' o' l') ∧ (∀ (L : Nat) (a o : Nat) (l : m_L) (a1 o1 : Nat) (l1 : m_L) (b : Bool) (a' o' : Nat) (l' : m_L), m_bin L → m_sg L (m_lk P T a) → R (L + 1) (a + 1) o l true a1 o1 l1 → R (L + 10) a1 o1 ((3, m_lk P T a) :: l1) b a' o' l' → R (L + 10) a o l b a' o' l') ∧ (∀ (a o : Nat) (l : m_L) (a' o' : Nat) (l' : m_L), R 3 a o l false a' o' l' → R 2 a o l false a' o' l') ∧ (∀ (a o : Nat) (l : m_L) (a1 o1 : Nat) (l1 : m_L), R 3 a o l true a1 o1 l1 → ¬ m_cp (m_lk P T a1) → R 2 a o l true a1 o1 l1) ∧ (∀ (a o : Nat) (l : m_L) (a1 o1 : Nat) (l1 : m_L) (a' o' : Nat) (l' : m_L), R 3 a o l true a1 o1 l1 → m_cp (m_lk P T a1) → R 3 (a1 + 1) o1 l1 false a' o' l' → R 2 a o l false a' o' l') ∧ (∀ (a o : Nat) (l : m_L) (a1 o1 : Nat) (l1 : m_L) (a2 o2 : Nat) (l2 : m_L), R 3 a o l true a1 o1 l1 → m_cp (m_lk P T a1) → R 3 (a1 + 1) o1 l1 true a2 o2 l2 → R 2 a o l true a2 o2 ((3, m_lk P T a1) :: l2)) ∧ (∀ (a o : Nat) (l : m_L), m_nm u (m_lk P T a) → R 5 a o l true (a + 1) o ((1, m_lk P T a) :: l)) ∧ (∀ (a o : Nat) (l : m_L), ¬ m_nm u (m_lk P T a) → m_dg (m_lk P T a) → R 5 a o l true (m_dig P T 4 a 0).2 o ((0, (m_dig P T 4 a 0).1) :: l)) ∧ (∀ (a o : Nat) (l : m_L) (a1 o1 : Nat) (l1 : m_L), m_lk P T a = 33 → o < 5 → R 5 (a + 1) (o + 1) l true a1 o1 l1 → R 5 a o l true a1 (o1 - 1) ((2, 0) :: l1)) ∧ (∀ (a o : Nat) (l : m_L) (a' o' : Nat) (l' : m_L), m_lk P T a = 33 → o < 5 → R 5 (a + 1) (o + 1) l false a' o' l' → R 5 a o l false a' o' l') ∧ (∀ (a o : Nat) (l : m_L), m_lk P T a = 33 → ¬ (o < 5) → R 5 a o l false a o l) ∧ (∀ (a o : Nat) (l : m_L) (a1 o1 : Nat) (l1 : m_L), m_lk P T a = 40 → o < 5 → R 0 (a + 1) (o + 1) l true a1 o1 l1 → m_lk P T a1 = 41 → R 5 a o l true (a1 + 1) (o1 - 1) l1) ∧ (∀ (a o : Nat) (l : m_L) (a1 o1 : Nat) (l1 : m_L), m_lk P T a = 40 → o < 5 → R 0 (a + 1) (o + 1) l true a1 o1 l1 → ¬ (m_lk P T a1 = 41) → R 5 a o l false a1 o1 l1) ∧ (∀ (a o : Nat) (l : m_L) (a' o' : Nat) (l' : m_L), m_lk P T a = 40 → o < 5 → R 0 (a + 1) (o + 1) l false a' o' l' → R 5 a o l false a' o' l') ∧ (∀ (a o : Nat) (l : m_L), m_lk P T a = 40 → ¬ (o < 5) → R 5 a o l false a o l) ∧ (∀ (a o : Nat) (l : m_L), ¬ m_nm u (m_lk P T a) → ¬ m_dg (m_lk P T a) → ¬ (m_lk P T a = 33) → ¬ (m_lk P T a = 40) → R 5 a o l false a o l)
def m_R (P : Nat) (T : Nat → Int32) (u L a o : Nat) (l : m_L) (b : Bool) (a' o' : Nat) (l' : m_L) : Prop := ∀ R : m_T, m_C P T u R → R L a o l b a' o' l'
theorem m_R.bf {P : Nat} {T : Nat → Int32} {u : Nat} {L : Nat} {a o : Nat} {l : m_L} {a' o' : Nat} {l' : m_L} (h0 : m_bin L) (h1 : m_R P T u (L + 1) a o l false a' o' l') : m_R P T u L a o l false a' o' l' := fun R C => C.1 L a o l a' o' l' h0 (h1 R C)
theorem m_R.bt {P : Nat} {T : Nat → Int32} {u : Nat} {L : Nat} {a o : Nat} {l : m_L} {a1 o1 : Nat} {l1 : m_L} {b : Bool} {a' o' : Nat} {l' : m_L} (h0 : m_bin L) (h1 : m_R P T u (L + 1) a o l true a1 o1 l1) (h2 : m_R P T u (L + 10) a1 o1 l1 b a' o' l') : m_R P T u L a o l b a' o' l' := fun R C => C.2.1 L a o l a1 o1 l1 b a' o' l' h0 (h1 R C) (h2 R C)
theorem m_R.le {P : Nat} {T : Nat → Int32} {u : Nat} {L : Nat} {a o : Nat} {l : m_L} (h0 : m_bin L) (h1 : ¬ m_sg L (m_lk P T a)) : m_R P T u (L + 10) a o l true a o l := fun R C => C.2.2.1 L a o l h0 h1
theorem m_R.lf {P : Nat} {T : Nat → Int32} {u : Nat} {L : Nat} {a o : Nat} {l : m_L} {a' o' : Nat} {l' : m_L} (h0 : m_bin L) (h1 : m_sg L (m_lk P T a)) (h2 : m_R P T u (L + 1) (a + 1) o l false a' o' l') : m_R P T u (L + 10) a o l false a' o' l' := fun R C => C.2.2.2.1 L a o l a' o' l' h0 h1 (h2 R C)
theorem m_R.lt {P : Nat} {T : Nat → Int32} {u : Nat} {L : Nat} {a o : Nat} {l : m_L} {a1 o1 : Nat} {l1 : m_L} {b : Bool} {a' o' : Nat} {l' : m_L} (h0 : m_bin L) (h1 : m_sg L (m_lk P T a)) (h2 : m_R P T u (L + 1) (a + 1) o l true a1 o1 l1) (h3 : m_R P T u (L + 10) a1 o1 ((3, m_lk P T a) :: l1) b a' o' l') : m_R P T u (L + 10) a o l b a' o' l' := fun R C => C.2.2.2.2.1 L a o l a1 o1 l1 b a' o' l' h0 h1 (h2 R C) (h3 R C)
theorem m_R.cf {P : Nat} {T : Nat → Int32} {u : Nat} {a o : Nat} {l : m_L} {a' o' : Nat} {l' : m_L} (h0 : m_R P T u 3 a o l false a' o' l') : m_R P T u 2 a o l false a' o' l' := fun R C => C.2.2.2.2.2.1 a o l a' o' l' (h0 R C)
theorem m_R.c1 {P : Nat} {T : Nat → Int32} {u : Nat} {a o : Nat} {l : m_L} {a1 o1 : Nat} {l1 : m_L} (h0 : m_R P T u 3 a o l true a1 o1 l1) (h1 : ¬ m_cp (m_lk P T a1)) : m_R P T u 2 a o l true a1 o1 l1 := fun R C => C.2.2.2.2.2.2.1 a o l a1 o1 l1 (h0 R C) h1
theorem m_R.c2f {P : Nat} {T : Nat → Int32} {u : Nat} {a o : Nat} {l : m_L} {a1 o1 : Nat} {l1 : m_L} {a' o' : Nat} {l' : m_L} (h0 : m_R P T u 3 a o l true a1 o1 l1) (h1 : m_cp (m_lk P T a1)) (h2 : m_R P T u 3 (a1 + 1) o1 l1 false a' o' l') : m_R P T u 2 a o l false a' o' l' := fun R C => C.2.2.2.2.2.2.2.1 a o l a1 o1 l1 a' o' l' (h0 R C) h1 (h2 R C)
theorem m_R.c2t {P : Nat} {T : Nat → Int32} {u : Nat} {a o : Nat} {l : m_L} {a1 o1 : Nat} {l1 : m_L} {a2 o2 : Nat} {l2 : m_L} (h0 : m_R P T u 3 a o l true a1 o1 l1) (h1 : m_cp (m_lk P T a1)) (h2 : m_R P T u 3 (a1 + 1) o1 l1 true a2 o2 l2) : m_R P T u 2 a o l true a2 o2 ((3, m_lk P T a1) :: l2) := fun R C => C.2.2.2.2.2.2.2.2.1 a o l a1 o1 l1 a2 o2 l2 (h0 R C) h1 (h2 R C)
theorem m_R.nam {P : Nat} {T : Nat → Int32} {u : Nat} {a o : Nat} {l : m_L} (h0 : m_nm u (m_lk P T a)) : m_R P T u 5 a o l true (a + 1) o ((1, m_lk P T a) :: l) := fun R C => C.2.2.2.2.2.2.2.2.2.1 a o l h0
theorem m_R.num {P : Nat} {T : Nat → Int32} {u : Nat} {a o : Nat} {l : m_L} (h0 : ¬ m_nm u (m_lk P T a)) (h1 : m_dg (m_lk P T a)) : m_R P T u 5 a o l true (m_dig P T 4 a 0).2 o ((0, (m_dig P T 4 a 0).1) :: l) := fun R C => C.2.2.2.2.2.2.2.2.2.2.1 a o l h0 h1
theorem m_R.nt {P : Nat} {T : Nat → Int32} {u : Nat} {a o : Nat} {l : m_L} {a1 o1 : Nat} {l1 : m_L} (h0 : m_lk P T a = 33) (h1 : o < 5) (h2 : m_R P T u 5 (a + 1) (o + 1) l true a1 o1 l1) : m_R P T u 5 a o l true a1 (o1 - 1) ((2, 0) :: l1) := fun R C => C.2.2.2.2.2.2.2.2.2.2.2.1 a o l a1 o1 l1 h0 h1 (h2 R C)
theorem m_R.nf {P : Nat} {T : Nat → Int32} {u : Nat} {a o : Nat} {l : m_L} {a' o' : Nat} {l' : m_L} (h0 : m_lk P T a = 33) (h1 : o < 5) (h2 : m_R P T u 5 (a + 1) (o + 1) l false a' o' l') : m_R P T u 5 a o l false a' o' l' := fun R C => C.2.2.2.2.2.2.2.2.2.2.2.2.1 a o l a' o' l' h0 h1 (h2 R C)
theorem m_R.no {P : Nat} {T : Nat → Int32} {u : Nat} {a o : Nat} {l : m_L} (h0 : m_lk P T a = 33) (h1 : ¬ (o < 5)) : m_R P T u 5 a o l false a o l := fun R C => C.2.2.2.2.2.2.2.2.2.2.2.2.2.1 a o l h0 h1
theorem m_R.pt {P : Nat} {T : Nat → Int32} {u : Nat} {a o : Nat} {l : m_L} {a1 o1 : Nat} {l1 : m_L} (h0 : m_lk P T a = 40) (h1 : o < 5) (h2 : m_R P T u 0 (a + 1) (o + 1) l true a1 o1 l1) (h3 : m_lk P T a1 = 41) : m_R P T u 5 a o l true (a1 + 1) (o1 - 1) l1 := fun R C => C.2.2.2.2.2.2.2.2.2.2.2.2.2.2.1 a o l a1 o1 l1 h0 h1 (h2 R C) h3
theorem m_R.pn {P : Nat} {T : Nat → Int32} {u : Nat} {a o : Nat} {l : m_L} {a1 o1 : Nat} {l1 : m_L} (h0 : m_lk P T a = 40) (h1 : o < 5) (h2 : m_R P T u 0 (a + 1) (o + 1) l true a1 o1 l1) (h3 : ¬ (m_lk P T a1 = 41)) : m_R P T u 5 a o l false a1 o1 l1 := fun R C => C.2.2.2.2.2.2.2.2.2.2.2.2.2.2.2.1 a o l a1 o1 l1 h0 h1 (h2 R C) h3
theorem m_R.pf {P : Nat} {T : Nat → Int32} {u : Nat} {a o : Nat} {l : m_L} {a' o' : Nat} {l' : m_L} (h0 : m_lk P T a = 40) (h1 : o < 5) (h2 : m_R P T u 0 (a + 1) (o + 1) l false a' o' l') : m_R P T u 5 a o l false a' o' l' := fun R C => C.2.2.2.2.2.2.2.2.2.2.2.2.2.2.2.2.1 a o l a' o' l' h0 h1 (h2 R C)
theorem m_R.po {P : Nat} {T : Nat → Int32} {u : Nat} {a o : Nat} {l : m_L} (h0 : m_lk P T a = 40) (h1 : ¬ (o < 5)) : m_R P T u 5 a o l false a o l := fun R C => C.2.2.2.2.2.2.2.2.2.2.2.2.2.2.2.2.2.1 a o l h0 h1
theorem m_R.el {P : Nat} {T : Nat → Int32} {u : Nat} {a o : Nat} {l : m_L} (h0 : ¬ m_nm u (m_lk P T a)) (h1 : ¬ m_dg (m_lk P T a)) (h2 : ¬ (m_lk P T a = 33)) (h3 : ¬ (m_lk P T a = 40)) : m_R P T u 5 a o l false a o l := fun R C => C.2.2.2.2.2.2.2.2.2.2.2.2.2.2.2.2.2.2 a o l h0 h1 h2 h3
theorem m_lk_lt {P : Nat} {T : Nat → Int32} {a : Nat} (h : ¬ (m_lk P T a = -1)) : a < P := by
  rcases Nat.lt_or_ge a P with q | q
  · exact q
  · exact absurd (if_neg (Nat.not_lt.mpr q)) h
theorem m_lk_is {P : Nat} {T : Nat → Int32} {a : Nat} {c : Int32} (h : m_lk P T a = c) (hc : ¬ (c = -1)) : a < P := m_lk_lt (by rw [h]; exact hc)
theorem m_nm_lt {P : Nat} {T : Nat → Int32} {a u : Nat} (h : m_nm u (m_lk P T a)) : a < P := by
  rcases h with ⟨-, h | h | h⟩ | ⟨-, h | h | h⟩ <;> exact m_lk_is h (by decide)
theorem m_dg_lt {P : Nat} {T : Nat → Int32} {a : Nat} (h : m_dg (m_lk P T a)) : a < P := m_lk_lt (fun q => by rw [q] at h; exact absurd h.1 (by decide))
theorem m_cp_lt {P : Nat} {T : Nat → Int32} {a : Nat} (h : m_cp (m_lk P T a)) : a < P := by
  rcases h with h | h | h <;> exact m_lk_is h (by decide)
theorem m_sg_lt {P : Nat} {T : Nat → Int32} {a L : Nat} (h : m_sg L (m_lk P T a)) : a < P := by
  rcases h with ⟨-, h⟩ | ⟨-, h⟩ | ⟨-, h | h⟩ | ⟨-, h | h | h⟩ <;> exact m_lk_is h (by decide)
theorem m_dig_le {P : Nat} {T : Nat → Int32} : ∀ (n a : Nat) (v : Int32), a ≤ P → a ≤ (m_dig P T n a v).2 ∧ (m_dig P T n a v).2 ≤ P
  | 0, a, v, h => ⟨Nat.le_refl a, h⟩
  | n + 1, a, v, h => by
    unfold m_dig
    split
    · next c =>
      have g := m_dig_le (P := P) (T := T) n (a + 1) (10 * v + m_lk P T a - 48) (m_dg_lt c)
      exact ⟨by omega, g.2⟩
    · exact ⟨Nat.le_refl a, h⟩
theorem m_dig_lt {P : Nat} {T : Nat → Int32} {n a : Nat} {v : Int32} (c : m_dg (m_lk P T a)) : a + 1 ≤ (m_dig P T (n + 1) a v).2 := by
  unfold m_dig
  rw [if_pos c]
  exact (m_dig_le n (a + 1) _ (m_dg_lt c)).1
/-- what steps (the latest first) do to how many numbers there are -/
def m_ef (ok : Int32 → Prop) : m_L → Nat → Nat → Prop
  | [], d, d' => d' = d
  | p :: r, d, d' => ∃ d1, m_ef ok r d d1 ∧ ((p.1 = 0 ∧ d' = d1 + 1) ∨ (p.1 = 1 ∧ ok p.2 ∧ d' = d1 + 1) ∨ (p.1 = 2 ∧ 1 ≤ d1 ∧ d' = d1) ∨ (p.1 = 3 ∧ 2 ≤ d1 ∧ d' + 1 = d1))
theorem m_ef_app {ok : Int32 → Prop} {t : m_L} : ∀ (s : m_L) {d d1 d2 : Nat}, m_ef ok t d d1 → m_ef ok s d1 d2 → m_ef ok (s ++ t) d d2
  | [], d, d1, d2, h1, h2 => by
    have h2 : d2 = d1 := h2
    rw [h2]
    exact h1
  | p :: s, d, d1, d2, h1, ⟨d3, h3, h4⟩ => ⟨d3, m_ef_app s h1 h3, h4⟩
def m_eff (ok : Int32 → Prop) (L : Nat) (t : m_L) : Prop := if L < 10 then ∀ d, m_ef ok t d (d + 1) else ∀ d, m_ef ok t (d + 1) (d + 1)
/-- what is sure of every road -/
def m_S (P u : Nat) : m_T := fun L a o l b a' o' l' => a ≤ a' ∧ (a ≤ P → a' ≤ P) ∧ o ≤ o' ∧ (o ≤ 5 → o' ≤ 5) ∧ ∃ t : m_L, l' = t ++ l ∧ t.length + a ≤ a' ∧ (b = true → o' = o ∧ m_eff (m_nm u) L t ∧ (L < 10 → a < a'))
theorem m_bin10 {L : Nat} (h : m_bin L) : L < 10 ∧ L + 1 < 10 := by
  rcases h with rfl | rfl | rfl | rfl <;> omega
theorem m_S_C (P : Nat) (T : Nat → Int32) (u : Nat) : m_C P T u (m_S P u) := by
  refine ⟨?_, ?_, ?_, ?_, ?_, ?_, ?_, ?_, ?_, ?_, ?_, ?_, ?_, ?_, ?_, ?_, ?_, ?_, ?_⟩
  · rintro L a o l a' o' l' hL ⟨h1, h2, h3, h4, t, h5, h6, -⟩
    exact ⟨h1, h2, h3, h4, t, h5, h6, fun q => by cases q⟩
  · rintro L a o l a1 o1 l1 b a' o' l' hL ⟨h1, h2, h3, h4, t, h5, h6, h7⟩ ⟨k1, k2, k3, k4, s, k5, k6, k7⟩
    obtain ⟨e1, e2, e3⟩ := h7 rfl
    have hb := m_bin10 hL
    refine ⟨by omega, fun q => k2 (h2 q), by omega, fun q => k4 (h4 q), s ++ t, by rw [k5, h5, List.append_assoc], by rw [List.length_append]; omega, fun q => ?_⟩
    obtain ⟨g1, g2, g3⟩ := k7 q
    refine ⟨by omega, ?_, fun _ => by have := e3 hb.2; omega⟩
    unfold m_eff at e2 g2 ⊢
    rw [if_pos hb.2] at e2
    rw [if_neg (by omega)] at g2
    rw [if_pos hb.1]
    exact fun d => m_ef_app s (e2 d) (g2 d)
  · rintro L a o l hL hs
    refine ⟨Nat.le_refl a, fun q => q, Nat.le_refl o, fun q => q, [], rfl, by simp, fun _ => ⟨rfl, ?_, fun q => by omega⟩⟩
    unfold m_eff
    rw [if_neg (by omega)]
    exact fun d => rfl
  · rintro L a o l a' o' l' hL hs ⟨h1, h2, h3, h4, t, h5, h6, -⟩
    have := m_sg_lt hs
    exact ⟨by omega, fun q => h2 (by omega), h3, h4, t, h5, by omega, fun q => by cases q⟩
  · rintro L a o l a1 o1 l1 b a' o' l' hL hs ⟨h1, h2, h3, h4, t, h5, h6, h7⟩ ⟨k1, k2, k3, k4, s, k5, k6, k7⟩
    have := m_sg_lt hs
    obtain ⟨e1, e2, e3⟩ := h7 rfl
    have hb := m_bin10 hL
    refine ⟨by omega, fun q => k2 (h2 (by omega)), by omega, fun q => k4 (h4 q), s ++ ((3, m_lk P T a) :: t), by rw [k5, h5, List.append_assoc]; rfl, by rw [List.length_append, List.length_cons]; omega, fun q => ?_⟩
    obtain ⟨g1, g2, g3⟩ := k7 q
    refine ⟨by omega, ?_, fun q => by omega⟩
    unfold m_eff at e2 g2 ⊢
    rw [if_pos hb.2] at e2
    rw [if_neg (by omega)] at g2
    rw [if_neg (by omega)]
    exact fun d => m_ef_app s ⟨d + 1 + 1, e2 (d + 1), Or.inr (Or.inr (Or.inr ⟨rfl, by omega, rfl⟩))⟩ (g2 d)
  · rintro a o l a' o' l' ⟨h1, h2, h3, h4, t, h5, h6, -⟩
    exact ⟨h1, h2, h3, h4, t, h5, h6, fun q => by cases q⟩
  · rintro a o l a1 o1 l1 ⟨h1, h2, h3, h4, t, h5, h6, h7⟩ hc
    refine ⟨h1, h2, h3, h4, t, h5, h6, fun q => ⟨(h7 q).1, ?_, fun _ => (h7 q).2.2 (by omega)⟩⟩
    have e2 := (h7 q).2.1
    unfold m_eff at e2 ⊢
    rw [if_pos (by omega)] at e2 ⊢
    exact e2
  · rintro a o l a1 o1 l1 a' o' l' ⟨h1, h2, h3, h4, t, h5, h6, h7⟩ hc ⟨k1, k2, k3, k4, s, k5, k6, -⟩
    have := m_cp_lt hc
    exact ⟨by omega, fun q => k2 (by omega), by omega, fun q => k4 (h4 q), s ++ t, by rw [k5, h5, List.append_assoc], by rw [List.length_append]; omega, fun q => by cases q⟩
  · rintro a o l a1 o1 l1 a2 o2 l2 ⟨h1, h2, h3, h4, t, h5, h6, h7⟩ hc ⟨k1, k2, k3, k4, s, k5, k6, k7⟩
    have := m_cp_lt hc
    obtain ⟨e1, e2, e3⟩ := h7 rfl
    obtain ⟨g1, g2, g3⟩ := k7 rfl
    refine ⟨by omega, fun q => k2 (by omega), by omega, fun q => k4 (h4 q), (3, m_lk P T a1) :: (s ++ t), by rw [k5, h5, List.cons_append, List.append_assoc], by rw [List.length_cons, List.length_append]; omega, fun q => ⟨by omega, ?_, fun _ => by have := e3 (by omega); omega⟩⟩
    unfold m_eff at e2 g2 ⊢
    rw [if_pos (by omega)] at e2 g2 ⊢
    exact fun d => ⟨d + 1 + 1, m_ef_app s (e2 d) (g2 (d + 1)), Or.inr (Or.inr (Or.inr ⟨rfl, by omega, rfl⟩))⟩
  · rintro a o l hn
    have := m_nm_lt hn
    refine ⟨by omega, fun q => by omega, Nat.le_refl o, fun q => q, [(1, m_lk P T a)], rfl, by simp; omega, fun _ => ⟨rfl, ?_, fun _ => by omega⟩⟩
    unfold m_eff
    rw [if_pos (by omega)]
    exact fun d => ⟨d, rfl, Or.inr (Or.inl ⟨rfl, hn, rfl⟩)⟩
  · rintro a o l hn hd
    have h1 := m_dig_le (P := P) (T := T) 4 a 0 (Nat.le_of_lt (m_dg_lt hd))
    have h2 : a + 1 ≤ (m_dig P T 4 a 0).2 := m_dig_lt (n := 3) (v := 0) hd
    refine ⟨h1.1, fun q => h1.2, Nat.le_refl o, fun q => q, [(0, (m_dig P T 4 a 0).1)], rfl, by simp only [List.length_cons, List.length_nil]; omega, fun _ => ⟨rfl, ?_, fun _ => by omega⟩⟩
    unfold m_eff
    rw [if_pos (by omega)]
    exact fun d => ⟨d, rfl, Or.inl ⟨rfl, rfl⟩⟩
  · rintro a o l a1 o1 l1 hc ho ⟨h1, h2, h3, h4, t, h5, h6, h7⟩
    have := m_lk_is hc (by decide)
    obtain ⟨e1, e2, e3⟩ := h7 rfl
    refine ⟨by omega, fun q => h2 (by omega), by omega, fun q => by omega, (2, 0) :: t, by rw [h5]; rfl, by rw [List.length_cons]; omega, fun q => ⟨by omega, ?_, fun _ => by omega⟩⟩
    unfold m_eff at e2 ⊢
    rw [if_pos (by omega)] at e2 ⊢
    exact fun d => ⟨d + 1, e2 d, Or.inr (Or.inr (Or.inl ⟨rfl, by omega, rfl⟩))⟩
  · rintro a o l a' o' l' hc ho ⟨h1, h2, h3, h4, t, h5, h6, h7⟩
    have := m_lk_is hc (by decide)
    exact ⟨by omega, fun q => h2 (by omega), by omega, fun q => h4 (by omega), t, h5, by omega, fun q => by cases q⟩
  · rintro a o l hc ho
    exact ⟨Nat.le_refl a, fun q => q, Nat.le_refl o, fun q => q, [], rfl, by simp, fun q => by cases q⟩
  · rintro a o l a1 o1 l1 hc ho ⟨h1, h2, h3, h4, t, h5, h6, h7⟩ hk
    have := m_lk_is hc (by decide)
    have := m_lk_is hk (by decide)
    obtain ⟨e1, e2, e3⟩ := h7 rfl
    exact ⟨by omega, fun q => by omega, by omega, fun q => by omega, t, h5, by omega, fun q => ⟨by omega, e2, fun _ => by omega⟩⟩
  · rintro a o l a1 o1 l1 hc ho ⟨h1, h2, h3, h4, t, h5, h6, h7⟩ hk
    have := m_lk_is hc (by decide)
    exact ⟨by omega, fun q => h2 (by omega), by omega, fun q => h4 (by omega), t, h5, by omega, fun q => by cases q⟩
  · rintro a o l a' o' l' hc ho ⟨h1, h2, h3, h4, t, h5, h6, h7⟩
    have := m_lk_is hc (by decide)
    exact ⟨by omega, fun q => h2 (by omega), by omega, fun q => h4 (by omega), t, h5, by omega, fun q => by cases q⟩
  · rintro a o l hc ho
    exact ⟨Nat.le_refl a, fun q => q, Nat.le_refl o, fun q => q, [], rfl, by simp, fun q => by cases q⟩
  · rintro a o l h1 h2 h3 h4
    exact ⟨Nat.le_refl a, fun q => q, Nat.le_refl o, fun q => q, [], rfl, by simp, fun q => by cases q⟩
theorem m_R.S {P : Nat} {T : Nat → Int32} {u L a o a' o' : Nat} {l l' : m_L} {b : Bool} (h : m_R P T u L a o l b a' o' l') : m_S P u L a o l b a' o' l' := h _ (m_S_C P T u)
/-- steps as the reference lays them, the latest first -/
def m_st (g : Nat → Int32) : m_L → Prop
  | [] => True
  | p :: r => g (2 * r.length) = p.1 ∧ g (2 * r.length + 1) = p.2 ∧ m_st g r
theorem m_st_up {g : Nat → Int32} {x : Int32} {k : Nat} : ∀ (l : m_L), 2 * l.length ≤ k → m_st g l → m_st (upd g k x) l
  | [], _, _ => trivial
  | p :: r, hk, h => by
    simp only [List.length_cons] at hk
    exact ⟨by rw [px_upd_ne g x (by omega)]; exact h.1, by rw [px_upd_ne g x (by omega)]; exact h.2.1, m_st_up r (by omega) h.2.2⟩
def m_rep (P : Nat) (T : Nat → Int32) (u : Nat) (Z : Nat → Int32) (F : Nat → Nat → Int32) (a o : Nat) (l : m_L) : Prop := (F 0 8 = nI P ∧ P ≤ 60 ∧ ∀ i : Nat, i < P → F 0 (286 + i) = T i) ∧ (a ≤ P ∧ o ≤ 5 ∧ l.length ≤ a ∧ u ≤ 1) ∧ Z 1 = nI a ∧ Z 2 = nI o ∧ Z 3 = nI l.length ∧ Z 4 = nI u ∧ m_st (F 5) l
def m_same (Z : Nat → Int32) (F : Nat → Nat → Int32) (Z' : Nat → Int32) (F' : Nat → Nat → Int32) : Prop := (∀ i : Nat, ¬ (1 ≤ i ∧ i ≤ 3) → Z' i = Z i) ∧ ∀ q : Nat, q ≠ 5 → F' q = F q
theorem m_same.rf {Z : Nat → Int32} {F : Nat → Nat → Int32} : m_same Z F Z F := ⟨fun _ _ => rfl, fun _ _ => rfl⟩
theorem m_same.tr {Z Z1 Z2 : Nat → Int32} {F F1 F2 : Nat → Nat → Int32} (h : m_same Z F Z1 F1) (k : m_same Z1 F1 Z2 F2) : m_same Z F Z2 F2 := ⟨fun i hi => (k.1 i hi).trans (h.1 i hi), fun q hq => (k.2 q hq).trans (h.2 q hq)⟩
theorem m_same.z {Z : Nat → Int32} {F : Nat → Nat → Int32} {k : Nat} {x : Int32} (hk : 1 ≤ k ∧ k ≤ 3) : m_same Z F (upd Z k x) F := ⟨fun i hi => px_upd_ne Z x (by omega), fun _ _ => rfl⟩
section MREP
variable {P : Nat} {T : Nat → Int32} {u : Nat} {Z : Nat → Int32} {F : Nat → Nat → Int32} {a o : Nat} {l : m_L}
theorem m_rep.at1 (h : m_rep P T u Z F a o l) (ha : a < P) : m_rep P T u (upd Z 1 (Z 1 + 1)) F (a + 1) o l := by
  obtain ⟨h1, ⟨h2, h3, h4, h5⟩, h6, h7, h8, h9, h10⟩ := h
  exact ⟨h1, ⟨ha, h3, by omega, h5⟩, by rw [px_upd_self, h6]; exact (nI_succ a).symm, by rw [px_upd_ne _ _ (by omega)]; exact h7, by rw [px_upd_ne _ _ (by omega)]; exact h8, by rw [px_upd_ne _ _ (by omega)]; exact h9, h10⟩
theorem m_rep.op1 (h : m_rep P T u Z F a o l) (ho : o < 5) : m_rep P T u (upd Z 2 (Z 2 + 1)) F a (o + 1) l := by
  obtain ⟨h1, ⟨h2, h3, h4, h5⟩, h6, h7, h8, h9, h10⟩ := h
  exact ⟨h1, ⟨h2, ho, h4, h5⟩, by rw [px_upd_ne _ _ (by omega)]; exact h6, by rw [px_upd_self, h7]; exact (nI_succ o).symm, by rw [px_upd_ne _ _ (by omega)]; exact h8, by rw [px_upd_ne _ _ (by omega)]; exact h9, h10⟩
theorem m_rep.opm (h : m_rep P T u Z F a o l) (ho : 1 ≤ o) : m_rep P T u (upd Z 2 (Z 2 - 1)) F a (o - 1) l := by
  obtain ⟨h1, ⟨h2, h3, h4, h5⟩, h6, h7, h8, h9, h10⟩ := h
  exact ⟨h1, ⟨h2, by omega, h4, h5⟩, by rw [px_upd_ne _ _ (by omega)]; exact h6, by rw [px_upd_self, h7]; exact (show nI o - nI 1 = nI (o - 1) from zz_sub ho), by rw [px_upd_ne _ _ (by omega)]; exact h8, by rw [px_upd_ne _ _ (by omega)]; exact h9, h10⟩
theorem m_rep.stp (h : m_rep P T u Z F a o l) (hl : l.length + 1 ≤ a) (w v : Int32) : m_rep P T u (upd Z 3 (nI l.length + 1)) (va_up F 5 (upd (upd (F 5) (2 * l.length) w) (2 * l.length + 1) v)) a o ((w, v) :: l) := by
  obtain ⟨⟨g1, g2, g3⟩, ⟨h2, h3, h4, h5⟩, h6, h7, h8, h9, h10⟩ := h
  refine ⟨⟨g1, g2, g3⟩, ⟨h2, h3, hl, h5⟩, by rw [px_upd_ne _ _ (by omega)]; exact h6, by rw [px_upd_ne _ _ (by omega)]; exact h7, by rw [px_upd_self]; exact (nI_succ _).symm, by rw [px_upd_ne _ _ (by omega)]; exact h9, ?_⟩
  rw [px_up_self]
  exact ⟨by rw [px_upd_ne _ _ (by omega), px_upd_self], px_upd_self _ _ _, m_st_up l (by omega) (m_st_up l (Nat.le_refl _) h10)⟩
end MREP
theorem px_PW.imp {d : Nat} {code : Nat → Option px_A} {Q Q' : Option Value → px_H → Prop} {pc : Nat} {lv : px_L} {st : List Value} {h : px_H} (k : px_PW d code Q pc lv st h) (hq : ∀ v h', Q v h' → Q' v h') : px_PW d code Q' pc lv st h := by
  obtain ⟨n, v, h', h1, h2⟩ := k
  exact ⟨n, v, h', h1, hq v h' h2⟩
/-- what a level's call leaves -/
def m_post (P : Nat) (T : Nat → Int32) (u L a o : Nat) (l : m_L) (Z : Nat → Int32) (F : Nat → Nat → Int32) : Option Value → px_H → Prop := fun r h' => ∃ (b : Bool) (a' o' : Nat) (l' : m_L) (Z' : Nat → Int32) (F' : Nat → Nat → Int32), r = some (.int (if b = true then 1 else 0)) ∧ h' = ([], px_MH Z' F') ∧ m_R P T u L a o l b a' o' l' ∧ m_rep P T u Z' F' a' o' l' ∧ m_same Z F Z' F'
def m_dep (L o : Nat) : Nat := 38 - 6 * o - L
def m_ok (P : Nat) (T : Nat → Int32) (u j L a o : Nat) (l : m_L) (Z : Nat → Int32) (F : Nat → Nat → Int32) : Prop := m_rep P T u Z F a o l → px_PM (m_dep L o) j [.ref 1000] ([], px_MH Z F) (m_post P T u L a o l Z F)
