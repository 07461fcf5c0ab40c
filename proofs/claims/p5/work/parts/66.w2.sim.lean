/-! THE TWO READERS: what the reference's reads, the class's reads (66.v1: by hand) -/
theorem i_lt_of {a b : Int32} (h : ¬ (a < b)) {c : Int32} (hc : c ≤ b) : ¬ (a < c) := by
  rw [Int32.lt_iff_toInt_lt] at h ⊢
  rw [Int32.le_iff_toInt_le] at hc
  omega
theorem q_stl_comp {r r' : Int32} (hr : r' ≤ r) : ∀ (p c : List Int32) (o : Int32), t_stl r' c p o = t_stl r' (t_stl r c p o).1 (t_stl r c p o).2.1 (t_stl r c p o).2.2
  | [], c, o => rfl
  | x :: p, c, o => by
    by_cases h : t_rank x < r
    · rw [show t_stl r c (x :: p) o = (c, x :: p, o) from if_pos h]
    · rw [show t_stl r c (x :: p) o = t_stl r (-x :: c) p (if x = 33 then o - 1 else o) from if_neg h, show t_stl r' c (x :: p) o = t_stl r' (-x :: c) p (if x = 33 then o - 1 else o) from if_neg (i_lt_of h hr)]
      exact q_stl_comp hr p _ _
theorem q_stl_stop {r : Int32} {c p : List Int32} {o : Int32} (h : t_rank (p.headD 0) < r) : t_stl r c p o = (c, p, o) := by
  cases p with
  | nil => rfl
  | cons x p => exact if_pos h
/-- equal when settled by a rank: equal when settled by a lower one -/
theorem q_stl_le {r r' : Int32} (hr : r' ≤ r) {c p c' p' : List Int32} {o o' : Int32} (h : t_stl r c p o = t_stl r c' p' o') : t_stl r' c p o = t_stl r' c' p' o' := by
  rw [q_stl_comp hr p c o, q_stl_comp hr p' c' o', h]
/-- the class's reader goes from one state at a place to another at another -/
def q_run (u : Nat) (T : Nat → Int32) (i : Nat) (R : t_R) (j : Nat) (R' : t_R) : Prop := ∃ k : Nat, j = i + k ∧ ∀ m : Nat, t_run u T (k + m) i R = t_run u T m j R'
theorem q_run.rf {u : Nat} {T : Nat → Int32} {i : Nat} {R : t_R} : q_run u T i R i R := ⟨0, rfl, fun m => by rw [Nat.zero_add]⟩
theorem q_run.tr {u : Nat} {T : Nat → Int32} {i j k : Nat} {R R1 R2 : t_R} (h : q_run u T i R j R1) (g : q_run u T j R1 k R2) : q_run u T i R k R2 := by
  obtain ⟨a, rfl, h⟩ := h
  obtain ⟨b, rfl, g⟩ := g
  exact ⟨a + b, by omega, fun m => by rw [Nat.add_assoc, h, g]⟩
theorem q_run.one {u : Nat} {T : Nat → Int32} {i : Nat} {R R' : t_R} (h : t_sign u (T i) R = (R', true)) : q_run u T i R (i + 1) R' := ⟨1, rfl, fun m => by rw [Nat.add_comm 1 m]; exact t_run_y h rfl⟩
/-- the class's reader comes to a FAULT here -/
def q_stk (P u : Nat) (T : Nat → Int32) (R : t_R) (a : Nat) : Prop := (a < P → (t_sign u (T a) R).2 = false) ∧ (P ≤ a → R.2.2.2.2 = true ∨ ¬ (nI (t_stl 1 R.1 R.2.1 R.2.2.1).2.1.length ≤ 0))
/-- the class's reader behind what a level has read: settled by the level's rank it holds c and p; levels from n on do not go on -/
def q_A (P : Nat) (T : Nat → Int32) (L n : Nat) (R : t_R) (a : Nat) (c p : List Int32) (o : Int32) : Prop :=
  R.2.2.2.2 = false ∧ t_stl (nI (L + 1)) R.1 R.2.1 R.2.2.1 = t_stl (nI (L + 1)) c p o ∧ (m_dg (m_lk P T a) → R.2.2.2.1 < 1 ∨ ¬ (R.2.2.2.1 < 4)) ∧ (∀ L' : Nat, n ≤ L' → ¬ m_sg L' (m_lk P T a)) ∧ (L ≤ 2 → m_cp (m_lk P T a) → t_rank ((t_stl 4 R.1 R.2.1 R.2.2.1).2.1.headD 0) = 3)
def q_S1 (P : Nat) (T : Nat → Int32) (u : Nat) : m_T := fun L a o l b a' _ l' => ∀ c p : List Int32, p.length ≤ a → (L ≤ 4 → t_rank (p.headD 0) < nI (L + 1)) → (b = true → ∃ (t : m_L) (R1 : t_R), l' = t ++ l ∧ q_run u T a (c, p, nI o, 0, true) a' R1 ∧ q_A P T L L R1 a' (t.map (q_enc u) ++ c) p (nI o)) ∧ (b = false → ∃ R1 : t_R, q_run u T a (c, p, nI o, 0, true) a' R1 ∧ q_stk P u T R1 a')
def q_S2 (P : Nat) (T : Nat → Int32) (u : Nat) : m_T := fun L a o l b a' _ l' => ∀ (R0 : t_R) (c p : List Int32), p.length ≤ a → t_rank (p.headD 0) < nI (L + 1) → q_A P T L (L + 1) R0 a c p (nI o) → (b = true → ∃ (t : m_L) (R1 : t_R), l' = t ++ l ∧ q_run u T a R0 a' R1 ∧ q_A P T L L R1 a' (t.map (q_enc u) ++ c) p (nI o)) ∧ (b = false → ∃ R1 : t_R, q_run u T a R0 a' R1 ∧ q_stk P u T R1 a')
def q_Sim (P : Nat) (T : Nat → Int32) (u : Nat) : m_T := fun L a o l b a' o' l' => m_S P u L a o l b a' o' l' ∧ (a ≤ P → o ≤ 5 → if L < 10 then q_S1 P T u L a o l b a' o' l' else q_S2 P T u (L - 10) a o l b a' o' l')
section QR
variable {P : Nat} {T : Nat → Int32} {u : Nat}
theorem m_lk_T {a : Nat} (h : a < P) : m_lk P T a = T a := if_pos h
/-- a sign of two sides behind something read -/
theorem q_goOp {L : Nat} {s : Int32} (hL : m_bin L) (hs : m_sg L s) {R : t_R} (hw : R.2.2.2.2 = false) : t_sign u s R = (((t_stl (nI (L + 1)) R.1 R.2.1 R.2.2.1).1, s :: (t_stl (nI (L + 1)) R.1 R.2.1 R.2.2.1).2.1, (t_stl (nI (L + 1)) R.1 R.2.1 R.2.2.1).2.2, 0, true), true) := by
  obtain ⟨c, p, o, d, w⟩ := R
  have hw : w = false := hw
  subst hw
  rcases hs with ⟨rfl, rfl⟩ | ⟨rfl, rfl⟩ | ⟨rfl, rfl | rfl⟩ | ⟨rfl, rfl | rfl | rfl⟩ <;> rfl
theorem q_goCp {s : Int32} (hs : m_cp s) {R : t_R} (hw : R.2.2.2.2 = false) : t_sign u s R = if t_rank ((t_stl 4 R.1 R.2.1 R.2.2.1).2.1.headD 0) = 3 then (((t_stl 4 R.1 R.2.1 R.2.2.1).1, (t_stl 4 R.1 R.2.1 R.2.2.1).2.1, (t_stl 4 R.1 R.2.1 R.2.2.1).2.2, 0, false), false) else (((t_stl 4 R.1 R.2.1 R.2.2.1).1, s :: (t_stl 4 R.1 R.2.1 R.2.2.1).2.1, (t_stl 4 R.1 R.2.1 R.2.2.1).2.2, 0, true), true) := by
  obtain ⟨c, p, o, d, w⟩ := R
  have hw : w = false := hw
  subst hw
  rcases hs with rfl | rfl | rfl <;> rfl
theorem q_goClose {R : t_R} (hw : R.2.2.2.2 = false) : t_sign u 41 R = t_close R.1 R.2.1 R.2.2.1 0 false := by
  obtain ⟨c, p, o, d, w⟩ := R
  have hw : w = false := hw
  subst hw
  rfl
theorem q_goDg {s : Int32} (hs : m_dg s) {R : t_R} (hw : R.2.2.2.2 = false) : t_sign u s R = t_dgt (s - 48) R.1 R.2.1 R.2.2.1 R.2.2.2.1 false := by
  obtain ⟨c, p, o, d, w⟩ := R
  have hw : w = false := hw
  subst hw
  have e : ¬ (s < 48 ∨ 57 < s) := fun q => q.elim (fun q => absurd hs.1 (Int32.not_le.mpr q)) (fun q => absurd hs.2 (Int32.not_le.mpr q))
  exact if_neg e
theorem q_rank_0 {s : Int32} (h1 : ∀ L : Nat, ¬ m_sg L s) (h2 : ¬ m_cp s) (h3 : ¬ (s = 33)) : t_rank s = 0 := by
  have n1 : ¬ (s = 37) := fun q => h1 4 (Or.inr (Or.inr (Or.inr ⟨rfl, Or.inr (Or.inr q)⟩)))
  have n2 : ¬ (s = 38) := fun q => h1 1 (Or.inr (Or.inl ⟨rfl, q⟩))
  have n3 : ¬ (s = 42) := fun q => h1 4 (Or.inr (Or.inr (Or.inr ⟨rfl, Or.inl q⟩)))
  have n4 : ¬ (s = 43) := fun q => h1 3 (Or.inr (Or.inr (Or.inl ⟨rfl, Or.inl q⟩)))
  have n5 : ¬ (s = 45) := fun q => h1 3 (Or.inr (Or.inr (Or.inl ⟨rfl, Or.inr q⟩)))
  have n6 : ¬ (s = 47) := fun q => h1 4 (Or.inr (Or.inr (Or.inr ⟨rfl, Or.inr (Or.inl q)⟩)))
  have n7 : ¬ (s = 60) := fun q => h2 (Or.inl q)
  have n8 : ¬ (s = 61) := fun q => h2 (Or.inr (Or.inl q))
  have n9 : ¬ (s = 62) := fun q => h2 (Or.inr (Or.inr q))
  have n10 : ¬ (s = 124) := fun q => h1 0 (Or.inl ⟨rfl, q⟩)
  unfold t_rank
  rw [if_neg h3, if_neg n1, if_neg n2, if_neg n3, if_neg n4, if_neg n5, if_neg n6, if_neg n7, if_neg n8, if_neg n9, if_neg n10]
/-- behind a whole text the class's reader does not go on, but by a ) -/
theorem q_A_stk {R : t_R} {a : Nat} {c p : List Int32} {o : Int32} (h : q_A P T 0 0 R a c p o) (ha : a < P) (h41 : ¬ (T a = 41)) : (t_sign u (T a) R).2 = false := by
  obtain ⟨hw, h1, h2, h3, h4⟩ := h
  rw [m_lk_T ha] at h2 h3 h4
  by_cases cd : m_dg (T a)
  · rw [q_goDg cd hw]
    unfold t_dgt
    rcases h2 cd with q | q
    · rw [if_pos q]
    · by_cases q1 : R.2.2.2.1 < 1
      · rw [if_pos q1]
      · rw [if_neg q1, if_neg q]
  by_cases cc : m_cp (T a)
  · rw [q_goCp cc hw, if_pos (h4 (by omega) cc)]
  obtain ⟨c1, p1, o1, d1, w1⟩ := R
  have hw : w1 = false := hw
  subst hw
  have e : T a < 48 ∨ 57 < T a := by
    by_cases q1 : T a < 48
    · exact Or.inl q1
    · by_cases q2 : 57 < T a
      · exact Or.inr q2
      · exact absurd ⟨Int32.not_lt.mp q1, Int32.not_lt.mp q2⟩ cd
  show (t_goOn (T a) c1 p1 o1 d1 false).2 = false
  unfold t_goOn
  rw [if_pos e, if_neg h41]
  by_cases c33 : T a = 33
  · rw [c33]
    rfl
  · rw [q_rank_0 (fun L => h3 L (Nat.zero_le L)) cc c33]
    rfl
theorem q_close {R : t_R} {a : Nat} {c p : List Int32} {o : Int32} (h : q_A P T 0 0 R a c (40 :: p) o) (hp : p.length ≤ 60) : t_sign u 41 R = ((c, p, o - 1, 0, false), true) := by
  obtain ⟨hw, h1, -⟩ := h
  rw [q_goClose hw]
  have e : t_stl 1 R.1 R.2.1 R.2.2.1 = (c, 40 :: p, o) := h1.trans (q_stl_stop (r := 1) (show t_rank 40 < 1 by decide))
  unfold t_close
  rw [e]
  exact if_pos (nI_le (a := 1) (b := (40 :: p).length) (by simp) (by simp only [List.length_cons]; omega))
theorem q_Sim.s1 {L a o a' o' : Nat} {l l' : m_L} {b : Bool} (h : q_Sim P T u L a o l b a' o' l') (hL : L < 10) (ha : a ≤ P) (ho : o ≤ 5) : q_S1 P T u L a o l b a' o' l' := by
  have g := h.2 ha ho
  rw [if_pos hL] at g
  exact g
theorem q_Sim.s2 {L a o a' o' : Nat} {l l' : m_L} {b : Bool} (h : q_Sim P T u (L + 10) a o l b a' o' l') (ha : a ≤ P) (ho : o ≤ 5) : q_S2 P T u L a o l b a' o' l' := by
  have g := h.2 ha ho
  rw [if_neg (by omega), Nat.add_sub_cancel] at g
  exact g
theorem q_mk1 {L a o a' o' : Nat} {l l' : m_L} {b : Bool} (hL : L < 10) (hs : m_S P u L a o l b a' o' l') (h : a ≤ P → o ≤ 5 → q_S1 P T u L a o l b a' o' l') : q_Sim P T u L a o l b a' o' l' := by
  refine ⟨hs, fun ha ho => ?_⟩
  rw [if_pos hL]
  exact h ha ho
theorem q_mk2 {L a o a' o' : Nat} {l l' : m_L} {b : Bool} (hs : m_S P u (L + 10) a o l b a' o' l') (h : a ≤ P → o ≤ 5 → q_S2 P T u L a o l b a' o' l') : q_Sim P T u (L + 10) a o l b a' o' l' := by
  refine ⟨hs, fun ha ho => ?_⟩
  rw [if_neg (by omega), Nat.add_sub_cancel]
  exact h ha ho
theorem q_lt_le {a b c : Int32} (h : a < b) (g : b ≤ c) : a < c := by
  rw [Int32.lt_iff_toInt_lt] at h ⊢
  rw [Int32.le_iff_toInt_le] at g
  omega
theorem q_nI_le {n m : Nat} (h : n ≤ m) (hm : m ≤ 100) : nI n ≤ nI m := nI_le h (by omega)
theorem q_rank_sg {L : Nat} {s : Int32} (hs : m_sg L s) : t_rank s = nI (L + 1) ∧ ¬ (s = 33) := by
  rcases hs with ⟨rfl, rfl⟩ | ⟨rfl, rfl⟩ | ⟨rfl, rfl | rfl⟩ | ⟨rfl, rfl | rfl | rfl⟩ <;> exact ⟨rfl, by decide⟩
theorem q_rank_cp {s : Int32} (hs : m_cp s) : t_rank s = 3 ∧ ¬ (s = 33) := by
  rcases hs with rfl | rfl | rfl <;> exact ⟨rfl, by decide⟩
theorem q_sg_no {L : Nat} {s : Int32} (hL : L = 2 ∨ 5 ≤ L) : ¬ m_sg L s := by
  rintro (⟨h, -⟩ | ⟨h, -⟩ | ⟨h, -⟩ | ⟨h, -⟩) <;> omega
theorem q_irr {x : Int32} (h : x < x) : False := by
  rw [Int32.lt_iff_toInt_lt] at h
  omega
/-- a sign of two sides below is settled -/
theorem q_pop {r s : Int32} {c p : List Int32} {o : Int32} (h1 : ¬ (t_rank s < r)) (h2 : ¬ (s = 33)) : t_stl r c (s :: p) o = t_stl r (-s :: c) p o := by
  rw [show t_stl r c (s :: p) o = t_stl r (-s :: c) p (if s = 33 then o - 1 else o) from if_neg h1, if_neg h2]
theorem q_encS (s : Int32) : q_enc u (3, s) = -s := rfl
theorem q_A.down {L : Nat} {R : t_R} {a : Nat} {c p : List Int32} {o : Int32} (h : q_A P T (L + 1) (L + 1) R a c p o) (hL : m_bin L) : q_A P T L (L + 1) R a c p o := by
  obtain ⟨h1, h2, h3, h4, h5⟩ := h
  have hb := m_bin10 hL
  refine ⟨h1, q_stl_le (q_nI_le (by omega) (by omega)) h2, h3, h4, fun q => h5 ?_⟩
  rcases hL with rfl | rfl | rfl | rfl <;> omega
theorem q_num (v s : Int32) : v * 10 + (s - 48) = 10 * v + s - 48 := by
  rw [Int32.mul_comm v 10, Int32.sub_eq_add_neg, Int32.sub_eq_add_neg, Int32.add_assoc]
theorem q_dig {c p : List Int32} {o : Int32} : ∀ (n k a : Nat) (v : Int32), k + n = 4 → 1 ≤ k → ∃ k' : Nat, 1 ≤ k' ∧ k' ≤ 4 ∧ (m_dg (m_lk P T (m_dig P T n a v).2) → k' = 4) ∧ q_run u T a (v :: c, p, o, nI k, false) (m_dig P T n a v).2 ((m_dig P T n a v).1 :: c, p, o, nI k', false)
  | 0, k, a, v, hk, h1 => ⟨k, h1, by omega, fun _ => by omega, q_run.rf⟩
  | n + 1, k, a, v, hk, h1 => by
    by_cases hd : m_dg (m_lk P T a)
    · have ha := m_dg_lt hd
      have e0 : m_dig P T (n + 1) a v = m_dig P T n (a + 1) (10 * v + m_lk P T a - 48) := if_pos hd
      rw [e0]
      obtain ⟨k', g1, g2, g3, g4⟩ := q_dig (c := c) (p := p) (o := o) n (k + 1) (a + 1) (10 * v + m_lk P T a - 48) (by omega) (by omega)
      refine ⟨k', g1, g2, g3, q_run.tr (q_run.one ?_) g4⟩
      rw [m_lk_T ha] at hd ⊢
      rw [q_goDg hd rfl]
      unfold t_dgt
      rw [if_neg (show ¬ (nI k < 1) from nI_nlt (b := 1) h1 (by omega)), if_pos (show nI k < 4 from nI_lt (b := 4) (by omega) (by omega)), nI_succ k, ← q_num]
      rfl
    · have e0 : m_dig P T (n + 1) a v = (v, a) := if_neg hd
      rw [e0]
      exact ⟨k, h1, by omega, fun q => absurd q hd, q_run.rf⟩
theorem q_begDg {s : Int32} {c p : List Int32} {o : Int32} (hs : m_dg s) : t_sign u s (c, p, o, 0, true) = (((s - 48) :: c, p, o, 1, false), true) := by
  have n1 : ¬ (s = 33) := fun q => by subst q; exact absurd hs (by decide)
  have n2 : ¬ (s = 40) := fun q => by subst q; exact absurd hs (by decide)
  have e : ¬ (s < 48 ∨ 57 < s) := fun q => q.elim (fun q => absurd hs.1 (Int32.not_le.mpr q)) (fun q => absurd hs.2 (Int32.not_le.mpr q))
  show t_begin u s c p o 0 true = _
  unfold t_begin
  rw [if_neg n1, if_neg n2, if_neg e]
theorem q_begNm {s : Int32} {c p : List Int32} {o : Int32} (hs : m_nm u s) : t_sign u s (c, p, o, 0, true) = (((-1 - t_ix u s) :: c, p, o, 0, false), true) := by
  rcases hs with ⟨rfl, rfl | rfl | rfl⟩ | ⟨rfl, rfl | rfl | rfl⟩ <;> rfl
theorem q_begOpen {s : Int32} {c p : List Int32} {o : Nat} (hs : s = 33 ∨ s = 40) (ho : o ≤ 5) : t_sign u s (c, p, nI o, 0, true) = ((c, s :: p, nI (o + 1), 0, true), decide (o < 5)) := by
  have key : t_sign u s (c, p, nI o, 0, true) = (if 5 < (nI o + 1) then ((c, s :: p, nI o + 1, 0, true), false) else ((c, s :: p, nI o + 1, 0, true), true)) := by
    rcases hs with rfl | rfl <;> rfl
  rw [key, ← nI_succ o]
  by_cases c5 : o < 5
  · rw [if_neg (show ¬ ((5 : Int32) < nI (o + 1)) from nI_nlt (a := 5) (b := o + 1) (by omega) (by omega)), decide_eq_true c5]
  · rw [if_pos (show (5 : Int32) < nI (o + 1) from nI_lt (a := 5) (b := o + 1) (by omega) (by omega)), decide_eq_false c5]
theorem q_i2c {b : Nat} (hb : b < 256) : (((nI b).toUInt32 % 65536).toInt32) = nI b := by
  have key : ∀ b : Fin 256, (((nI b.1).toUInt32 % 65536).toInt32) = nI b.1 := by decide +kernel
  exact key ⟨b, hb⟩
theorem q_begNo {s : Int32} {c p : List Int32} {o : Int32} (hu : u ≤ 1) (hb : ∃ b : Nat, b < 256 ∧ s = nI b) (h1 : ¬ m_nm u s) (h2 : ¬ m_dg s) (h3 : ¬ (s = 33)) (h4 : ¬ (s = 40)) : (t_sign u s (c, p, o, 0, true)).2 = false := by
  have e : s < 48 ∨ 57 < s := by
    by_cases q1 : s < 48
    · exact Or.inl q1
    · by_cases q2 : 57 < s
      · exact Or.inr q2
      · exact absurd ⟨Int32.not_lt.mp q1, Int32.not_lt.mp q2⟩ h2
  have ei : t_ix u ((s.toUInt32 % 65536).toInt32) = -1 := by
    obtain ⟨b, hb, rfl⟩ := hb
    rw [q_i2c hb]
    unfold t_ix
    rcases (show u = 0 ∨ u = 1 by omega) with rfl | rfl
    · rw [if_pos rfl, if_neg (fun q => h1 (Or.inl ⟨rfl, Or.inr (Or.inl q)⟩)), if_neg (fun q => h1 (Or.inl ⟨rfl, Or.inl q⟩)), if_neg (fun q => h1 (Or.inl ⟨rfl, Or.inr (Or.inr q)⟩))]
    · rw [if_neg (by omega), if_neg (fun q => h1 (Or.inr ⟨rfl, Or.inr (Or.inl q)⟩)), if_neg (fun q => h1 (Or.inr ⟨rfl, Or.inl q⟩)), if_neg (fun q => h1 (Or.inr ⟨rfl, Or.inr (Or.inr q)⟩))]
  show (t_begin u s c p o 0 true).2 = false
  unfold t_begin
  rw [if_neg h3, if_neg h4, if_pos e, ei]
  rfl
theorem q_stk_at {R : t_R} {a : Nat} (ha : a < P) (h : (t_sign u (T a) R).2 = false) : q_stk P u T R a := ⟨fun _ => h, fun q => absurd ha (by omega)⟩
end QR
