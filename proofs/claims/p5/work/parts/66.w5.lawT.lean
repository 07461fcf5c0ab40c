/-! TEXTS worked out: both alike (66.w5: by hand) -/
theorem zz_heldEq (x lo hi : Int32) (h : lo ≤ hi) : i_max lo (i_min hi x) = i_held x lo hi := by
  unfold i_max i_min i_held
  simp only [Int32.lt_iff_toInt_lt, Int32.le_iff_toInt_le] at h ⊢
  by_cases c3 : x.toInt < hi.toInt
  · rw [if_pos c3]
    by_cases c4 : lo.toInt < x.toInt
    · rw [if_pos c4, if_pos (show lo.toInt ≤ x.toInt by omega), if_pos (show x.toInt ≤ hi.toInt by omega)]
    · rw [if_neg c4]
      by_cases c1 : lo.toInt ≤ x.toInt
      · rw [if_pos c1, if_pos (show x.toInt ≤ hi.toInt by omega)]
        exact Int32.toInt_inj.mp (by omega)
      · rw [if_neg c1]
  · rw [if_neg c3, if_pos (show lo.toInt ≤ x.toInt by omega)]
    have e : (if lo.toInt < hi.toInt then hi else lo) = hi := by
      split
      · rfl
      · exact Int32.toInt_inj.mp (by omega)
    rw [e]
    by_cases c2 : x.toInt ≤ hi.toInt
    · rw [if_pos c2]
      exact Int32.toInt_inj.mp (by omega)
    · rw [if_neg c2]
theorem zz_negneg1 (x : Int32) : x / -1 * -1 = x := by
  rw [zz_divm1, Int32.neg_mul, Int32.mul_comm, Int32.neg_mul, Int32.neg_neg]
  simp
theorem e_join {s : Int32} (h : m_cp s ∨ ∃ L : Nat, m_sg L s) (x y : Int32) : s_join (-(-s)) y x = s_mjoin s x y := by
  rw [Int32.neg_neg]
  have e37 : s_join 37 y x = s_mjoin 37 x y := by
    show i_rem x y = if y = 0 then 0 else if y = (-1) then 0 else (x - x / y * y)
    unfold i_rem
    by_cases c : y = 0
    · rw [if_pos c, if_pos c]
    · rw [if_neg c, if_neg c]
      by_cases c1 : y = -1
      · rw [if_pos c1, c1, zz_negneg1, Int32.sub_self]
      · rw [if_neg c1]
  have e47 : s_join 47 y x = s_mjoin 47 x y := by
    show i_quo x y = if y = 0 then 0 else if y = (-1) then (-x) else (x / y)
    unfold i_quo
    by_cases c : y = 0
    · rw [if_pos c, if_pos c]
    · rw [if_neg c, if_neg c]
      by_cases c1 : y = -1
      · rw [if_pos c1, c1, zz_divm1]
      · rw [if_neg c1]
  rcases h with (rfl | rfl | rfl) | ⟨L, ⟨-, rfl⟩ | ⟨-, rfl⟩ | ⟨-, rfl | rfl⟩ | ⟨-, rfl | rfl | rfl⟩⟩
  · rfl
  · rfl
  · rfl
  · rfl
  · rfl
  · rfl
  · rfl
  · rfl
  · exact e47
  · exact e37
/-- a step that both take alike -/
def e_val (u : Nat) (s : Int32 × Int32) : Prop := (s.1 = 0 ∧ 0 ≤ s.2) ∨ (s.1 = 1 ∧ m_nm u s.2) ∨ s.1 = 2 ∨ (s.1 = 3 ∧ (m_cp s.2 ∨ ∃ L : Nat, m_sg L s.2))
def e_nm (u : Nat) (a b c v : Int32) : Int32 := if u = 0 then r_nm0 a b c v else r_nm1 a b c v
theorem e_evc {u : Nat} {a b c : Int32} {w v : Int32} (h : e_val u (w, v)) (st : List Int32) : s_evc a b c (q_enc u (w, v)) st = r_evc (e_nm u a b c) w v st := by
  rcases h with ⟨h, h2⟩ | ⟨h, h2⟩ | h | ⟨h, h2⟩
  · have h : w = 0 := h
    subst h
    have h2 : 0 ≤ v := h2
    have ne : ∀ k : Int32, k < 0 → ¬ (v = k) := fun k hk q => by
      subst q
      rw [Int32.le_iff_toInt_le] at h2
      rw [Int32.lt_iff_toInt_lt] at hk
      omega
    show s_evc a b c v st = v :: st
    unfold s_evc
    rw [if_neg (ne (-33) (by decide)), if_neg (ne (-3) (by decide)), if_neg (ne (-2) (by decide)), if_neg (ne (-1) (by decide)), if_neg (Int32.not_lt.mpr h2)]
  · have h : w = 1 := h
    subst h
    rcases h2 with ⟨rfl, h2 | h2 | h2⟩ | ⟨rfl, h2 | h2 | h2⟩ <;> (have h2 : v = _ := h2; subst h2; rfl)
  · have h : w = 2 := h
    subst h
    rfl
  · have h : w = 3 := h
    subst h
    have h2 : m_cp v ∨ ∃ L : Nat, m_sg L v := h2
    have ej := e_join h2 (st.tail.headD 0) (st.headD 0)
    show s_evc a b c (-v) st = s_mjoin v (st.tail.headD 0) (st.headD 0) :: st.tail.tail
    rw [← ej]
    rcases h2 with (rfl | rfl | rfl) | ⟨L, ⟨-, rfl⟩ | ⟨-, rfl⟩ | ⟨-, rfl | rfl⟩ | ⟨-, rfl | rfl | rfl⟩⟩ <;> rfl
theorem e_evs {u : Nat} {a b c : Int32} {g wt v : Nat → Int32} : ∀ (m k : Nat) (st : List Int32), (∀ j : Nat, k ≤ j → j < k + m → g j = q_enc u (wt j, v j) ∧ e_val u (wt j, v j)) → s_evs g a b c m k st = r_evs (e_nm u a b c) wt v m k st
  | 0, _, _, _ => rfl
  | m + 1, k, st, h => by
    obtain ⟨e1, e2⟩ := h k (Nat.le_refl k) (by omega)
    show s_evs g a b c m (k + 1) (s_evc a b c (g k) st) = r_evs (e_nm u a b c) wt v m (k + 1) (r_evc (e_nm u a b c) (wt k) (v k) st)
    rw [e1, e_evc e2]
    exact e_evs m (k + 1) _ (fun j h1 h2 => h j (by omega) (by omega))
theorem zz_st_get {g : Nat → Int32} : ∀ (l : List Int32), zz_st g l → ∀ i : Nat, i < l.length → g i = l.getD (l.length - 1 - i) 0
  | [], _, i, hi => absurd hi (Nat.not_lt_zero i)
  | p :: r, h, i, hi => by
    simp only [List.length_cons, Nat.add_sub_cancel] at hi ⊢
    rcases Nat.lt_or_ge i r.length with c | c
    · rw [show r.length - i = (r.length - 1 - i) + 1 by omega, List.getD_cons_succ]
      exact zz_st_get r h.2 i c
    · obtain rfl : i = r.length := by omega
      rw [Nat.sub_self, List.getD_cons_zero]
      exact h.1
theorem m_ef_val {u : Nat} : ∀ (l : m_L) {d d' : Nat}, m_ef (m_nm u) l d d' → q_ok l → ∀ s ∈ l, e_val u s
  | [], _, _, _, _, s, hs => by cases hs
  | p :: r, d, d', ⟨d1, h1, h2⟩, ho, s, hs => by
    rcases List.mem_cons.mp hs with rfl | hs
    · have k := ho s List.mem_cons_self
      rcases h2 with ⟨q, -⟩ | ⟨q, q2, -⟩ | ⟨q, -⟩ | ⟨q, -⟩
      · exact Or.inl ⟨q, k.1 q⟩
      · exact Or.inr (Or.inl ⟨q, q2⟩)
      · exact Or.inr (Or.inr (Or.inl q))
      · exact Or.inr (Or.inr (Or.inr ⟨q, k.2 q⟩))
    · exact m_ef_val r h1 (fun s hs => ho s (List.mem_cons_of_mem _ hs)) s hs
theorem e_getD_map (u : Nat) : ∀ (l : m_L) (i : Nat), i < l.length → (l.map (q_enc u)).getD i 0 = q_enc u (l.getD i (0, 0))
  | [], i, hi => absurd hi (Nat.not_lt_zero i)
  | p :: r, 0, _ => rfl
  | p :: r, i + 1, hi => by
    rw [List.map_cons, List.getD_cons_succ, List.getD_cons_succ]
    exact e_getD_map u r i (by simpa using hi)
theorem e_getD_mem : ∀ (l : m_L) (i : Nat), i < l.length → l.getD i (0, 0) ∈ l
  | [], i, hi => absurd hi (Nat.not_lt_zero i)
  | p :: r, 0, _ => List.mem_cons_self
  | p :: r, i + 1, hi => by
    rw [List.getD_cons_succ]
    exact List.mem_cons_of_mem _ (e_getD_mem r i (by simpa using hi))
theorem g_tu.evs {u b q : Nat} {N : Nat → Int32} {F : Nat → Nat → Int32} {f : Nat → Int32} (h : g_tu u b q N F f) (x y z : Int32) : s_evs (F q) x y z (N q).toNatClampNeg 0 [] = r_evs (e_nm u x y z) (fun k => f (b + 1 + 2 * k)) (fun k => f (b + 2 + 2 * k)) (f b).toNatClampNeg 0 [] := by
  obtain ⟨l, h1, h2, h3, h4, h5, h6, h7⟩ := h
  rw [h2, h3, nI_clamp (by omega)]
  refine e_evs _ _ _ (fun j _ hj => ?_)
  have hj : j < l.length := by omega
  have k1 := zz_st_get _ h4 j (by rw [List.length_map]; exact hj)
  rw [List.length_map, e_getD_map u l _ (by omega)] at k1
  obtain ⟨k2, k3⟩ := m_st_get l h5 j hj
  have k2 : f (b + 1 + 2 * j) = (l.getD (l.length - 1 - j) (0, 0)).1 := k2
  have k3 : f (b + 2 + 2 * j) = (l.getD (l.length - 1 - j) (0, 0)).2 := by
    rw [← k3]
    exact congrArg f (by omega)
  rw [k1, k2, k3]
  refine ⟨rfl, ?_⟩
  rcases h6 with rfl | h6
  · exact absurd hj (Nat.not_lt_zero j)
  · exact m_ef_val l h6 h7 _ (e_getD_mem l _ (by omega))
theorem RR.ruled0 {Z N Zm : Nat → Int32} {F G : Nat → Nat → Int32} (h : RR Z N F Zm G) (a b c : Int32) : s_ruled0 N F a b c = s_mtold0 G a b c := by
  have hx := h.tt.2.1
  have e := g_tu_has hx
  have ev := hx.evs a b c
  unfold s_ruled0 s_mtold0
  by_cases c0 : N 6 ≤ 0
  · rw [if_pos c0, if_neg (e.mp c0)]
    exact zz_heldEq _ 0 99 (by decide)
  · rw [if_neg c0, if_pos (Decidable.byContradiction (fun q => c0 (e.mpr q)))]
    refine (zz_heldEq _ 0 99 (by decide)).trans (congrArg (fun z => i_held z 0 99) ?_)
    exact congrArg (fun l : List Int32 => l.headD 0) ev
theorem RR.ruled1 {Z N Zm : Nat → Int32} {F G : Nat → Nat → Int32} (h : RR Z N F Zm G) (a b c : Int32) : s_ruled1 N F a b c = s_mtold1 G a b c := by
  have hx := h.tt.2.2
  have e := g_tu_has hx
  have ev := hx.evs a b c
  unfold s_ruled1 s_mtold1
  by_cases c0 : N 7 ≤ 0
  · rw [if_pos c0, if_neg (e.mp c0)]
    exact zz_heldEq _ (-99) 99 (by decide)
  · rw [if_neg c0, if_pos (Decidable.byContradiction (fun q => c0 (e.mpr q)))]
    refine (zz_heldEq _ (-99) 99 (by decide)).trans (congrArg (fun z => i_held z (-99) 99) ?_)
    exact congrArg (fun l : List Int32 => l.headD 0) ev
theorem st_lawT (use a b c : Int32) : px_st 60 167 [.int use, .int a, .int b, .int c] True := by
  intro Z N F Zm G h
  have t0 : r_tx0 G := h.tx0
  have t1 : r_tx1 G := h.tx1
  by_cases c0 : use = 0
  · subst c0
    exact px_st_of (kc_law0 h.1 a b c) (by decide) (kc_mlaw t0 t1 0 a b c) (by decide) h (fun _ => h.ruled0 a b c)
  by_cases c1 : use = 1
  · subst c1
    exact px_st_of (kc_law1 h.1 a b c) (by decide) (kc_mlaw t0 t1 1 a b c) (by decide) h (fun _ => h.ruled1 a b c)
  · refine px_st_of (kc_lawB h.1 use a b c (fun q => q.elim c0 c1)) (by decide) (kc_mlaw t0 t1 use a b c) (by decide) h (fun _ => ?_)
    refine (if_neg (fun q => ?_)).symm
    obtain ⟨e, hl⟩ := px_in5 (n := 1) (by decide) q
    rcases (show use.toNatClampNeg = 0 ∨ use.toNatClampNeg = 1 by omega) with h | h
    · exact c0 (by rw [e, h]; rfl)
    · exact c1 (by rw [e, h]; rfl)
