/-! WHAT BOTH HOLD OF TEXTS (49.t3: textrr.py) -/
/-- steps as codes -/
def q_enc (u : Nat) (s : Int32 × Int32) : Int32 := if s.1 = 0 then s.2 else if s.1 = 1 then -1 - t_ix u s.2 else if s.1 = 2 then -33 else -s.2
def g_by (f : Nat → Int32) : Prop := ∀ i : Nat, i < (f 8).toNatClampNeg → ∃ b : Nat, b < 256 ∧ f (286 + i) = nI b
/-- numbers are 0 and above, signs those that stand between two sides -/
def q_ok (l : m_L) : Prop := ∀ s ∈ l, (s.1 = 0 → 0 ≤ s.2) ∧ (s.1 = 3 → m_cp s.2 ∨ ∃ L : Nat, m_sg L s.2)
def g_tu (u b q : Nat) (N : Nat → Int32) (F : Nat → Nat → Int32) (f : Nat → Int32) : Prop := ∃ l : m_L, l.length ≤ 60 ∧ N q = nI l.length ∧ f b = nI l.length ∧ zz_st (F q) (l.map (q_enc u)) ∧ m_st (fun j => f (b + 1 + j)) l ∧ (l = [] ∨ m_ef (m_nm u) l 0 1) ∧ q_ok l
def g_tt (q : Nat) (N : Nat → Int32) (F : Nat → Nat → Int32) (f : Nat → Int32) : Prop := g_by f ∧ g_tu 0 36 (q + 6) N F f ∧ g_tu 1 161 (q + 7) N F f
def TX (Z N : Nat → Int32) (F G : Nat → Nat → Int32) : Prop := g_tt 0 N F (G 0) ∧ (¬ (Z 21 = 0) → g_tt 9 N F (G 1))
theorem m_st_cg {g g' : Nat → Int32} : ∀ l : m_L, (∀ j : Nat, j < 2 * l.length → g' j = g j) → m_st g l → m_st g' l
  | [], _, _ => trivial
  | p :: r, he, h => by
    simp only [List.length_cons] at he
    exact ⟨(he _ (by omega)).trans h.1, (he _ (by omega)).trans h.2.1, m_st_cg r (fun j hj => he j (by omega)) h.2.2⟩
theorem zz_st_cg {g g' : Nat → Int32} : ∀ l : List Int32, (∀ j : Nat, j < l.length → g' j = g j) → zz_st g l → zz_st g' l
  | [], _, _ => trivial
  | p :: r, he, h => by
    simp only [List.length_cons] at he
    exact ⟨(he _ (by omega)).trans h.1, zz_st_cg r (fun j hj => he j (by omega)) h.2⟩
theorem g_tu.cg {u b q q2 : Nat} {N N' : Nat → Int32} {F F' : Nat → Nat → Int32} {f f' : Nat → Int32} (h : g_tu u b q N F f) (eN : N' q2 = N q) (eF : ∀ j : Nat, j < (N q).toNatClampNeg → F' q2 j = F q j) (ef : ∀ j : Nat, b ≤ j → j ≤ b + 124 → f' j = f j) : g_tu u b q2 N' F' f' := by
  obtain ⟨l, h1, h2, h3, h4, h5, h6⟩ := h
  refine ⟨l, h1, eN.trans h2, (ef b (by omega) (by omega)).trans h3, zz_st_cg _ (fun j hj => eF j ?_) h4, m_st_cg l (fun j hj => ef _ (by omega) (by omega)) h5, h6⟩
  rw [h2, nI_clamp (by omega)]
  rw [List.length_map] at hj
  exact hj
theorem g_tu.nil {u b q : Nat} {N : Nat → Int32} {F : Nat → Nat → Int32} {f : Nat → Int32} (h1 : N q = 0) (h2 : f b = 0) : g_tu u b q N F f := ⟨[], by simp, h1, h2, trivial, trivial, Or.inl rfl, fun s hs => by cases hs⟩
theorem g_by.cg {f f' : Nat → Int32} (h : g_by f) (h8 : f' 8 = f 8) (he : ∀ j : Nat, 286 ≤ j → j < 286 + (f 8).toNatClampNeg → f' j = f j) : g_by f' := by
  intro i hi
  rw [h8] at hi
  rw [he _ (by omega) (by omega)]
  exact h i hi
theorem g_tt.cg {q : Nat} {N N' : Nat → Int32} {F F' : Nat → Nat → Int32} {f f' : Nat → Int32} (h : g_tt q N F f) (eN : N' (q + 6) = N (q + 6) ∧ N' (q + 7) = N (q + 7)) (eF : F' (q + 6) = F (q + 6) ∧ F' (q + 7) = F (q + 7)) (ef : ∀ j : Nat, j = 8 ∨ (36 ≤ j ∧ j < 286) ∨ (286 ≤ j ∧ j < 286 + (f 8).toNatClampNeg) → f' j = f j) : g_tt q N' F' f' :=
  ⟨h.1.cg (ef 8 (Or.inl rfl)) (fun j h1 h2 => ef j (Or.inr (Or.inr ⟨h1, h2⟩))), h.2.1.cg eN.1 (fun j _ => congrFun eF.1 j) (fun j h1 h2 => ef j (Or.inr (Or.inl ⟨by omega, by omega⟩))), h.2.2.cg eN.2 (fun j _ => congrFun eF.2 j) (fun j h1 h2 => ef j (Or.inr (Or.inl ⟨by omega, by omega⟩)))⟩
theorem g_tt.copy {q q2 : Nat} {N N' : Nat → Int32} {F F' : Nat → Nat → Int32} {f g : Nat → Int32} (h : g_tt q N F f) (h60 : (f 8).toNatClampNeg ≤ 60) (he : ∀ j : Nat, j < 370 → g j = f j) (n6 : N' (q2 + 6) = N (q + 6)) (n7 : N' (q2 + 7) = N (q + 7)) (f6 : ∀ j : Nat, j < (N (q + 6)).toNatClampNeg → F' (q2 + 6) j = F (q + 6) j) (f7 : ∀ j : Nat, j < (N (q + 7)).toNatClampNeg → F' (q2 + 7) j = F (q + 7) j) : g_tt q2 N' F' g :=
  ⟨h.1.cg (he 8 (by omega)) (fun j h1 h2 => he j (by omega)), h.2.1.cg n6 f6 (fun j h1 h2 => he j (by omega)), h.2.2.cg n7 f7 (fun j h1 h2 => he j (by omega))⟩
theorem TX.cg {Z N Z' N' : Nat → Int32} {F G F' G' : Nat → Nat → Int32} (h : TX Z N F G) (hz : Z' 21 = Z 21) (hN : ∀ q : Nat, q = 6 ∨ q = 7 ∨ q = 15 ∨ q = 16 → N' q = N q) (hF : ∀ q : Nat, q = 6 ∨ q = 7 ∨ q = 15 ∨ q = 16 → F' q = F q) (h0 : ∀ j : Nat, j = 8 ∨ 36 ≤ j → G' 0 j = G 0 j) (h1 : G' 1 = G 1) : TX Z' N' F' G' := by
  refine ⟨h.1.cg ⟨hN 6 (by omega), hN 7 (by omega)⟩ ⟨hF 6 (by omega), hF 7 (by omega)⟩ (fun j hj => h0 j (by omega)), fun q => ?_⟩
  rw [hz] at q
  rw [h1]
  exact (h.2 q).cg ⟨hN 15 (by omega), hN 16 (by omega)⟩ ⟨hF 15 (by omega), hF 16 (by omega)⟩ (fun _ _ => rfl)
