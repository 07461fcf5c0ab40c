/-! part 66.w4.textT -/
section
/-! text: equal answers (66.w4: textrr.py) -/
theorem q_digB {P : Nat} {T : Nat → Int32} : ∀ (n a x : Nat), x < 10 ^ (4 - n) → n ≤ 4 → ∃ y : Nat, y < 10000 ∧ (m_dig P T n a (nI x)).1 = nI y
  | 0, a, x, hx, _ => ⟨x, by simpa using hx, rfl⟩
  | n + 1, a, x, hx, hn => by
    have h4 : 10 ^ (4 - n) = 10 * 10 ^ (4 - (n + 1)) := by
      rw [show 4 - n = (4 - (n + 1)) + 1 by omega, Nat.pow_succ, Nat.mul_comm]
    by_cases hd : m_dg (m_lk P T a)
    · rw [show m_dig P T (n + 1) a (nI x) = m_dig P T n (a + 1) (10 * nI x + m_lk P T a - 48) from if_pos hd]
      obtain ⟨k, hk, e⟩ := zz_rng (a := 48) (b := 57) (by omega) (by omega) (show nI 48 ≤ m_lk P T a from hd.1) (show m_lk P T a ≤ nI 57 from hd.2)
      rw [e.2, show (10 : Int32) * nI x = nI (10 * x) from zz_mul 10 x, nI_add, show nI (10 * x + k) - 48 = nI (10 * x + k - 48) from zz_sub (b := 48) (by omega)]
      exact q_digB n (a + 1) (10 * x + k - 48) (by omega) (by omega)
    · rw [show m_dig P T (n + 1) a (nI x) = (nI x, a) from if_neg hd]
      refine ⟨x, Nat.lt_of_lt_of_le hx ?_, rfl⟩
      exact Nat.pow_le_pow_right (n := 10) (by omega) (show 4 - (n + 1) ≤ 4 by omega)
theorem q_ok_C (P : Nat) (T : Nat → Int32) (u : Nat) : m_C P T u (fun _ _ _ l _ _ _ l' => q_ok l → q_ok l') := by
  refine ⟨?_, ?_, ?_, ?_, ?_, ?_, ?_, ?_, ?_, ?_, ?_, ?_, ?_, ?_, ?_, ?_, ?_, ?_, ?_⟩
  · intro L a o l a' o' l' hL h; exact h
  · intro L a o l a1 o1 l1 b a' o' l' hL h g; exact fun q => g (h q)
  · intro L a o l hL hs; exact id
  · intro L a o l a' o' l' hL hs h; exact h
  · intro L a o l a1 o1 l1 b a' o' l' hL hs h g q
    exact g (List.forall_mem_cons.mpr ⟨⟨(fun z => absurd (show (3 : Int32) = 0 from z) (by decide)), fun _ => Or.inr ⟨L, hs⟩⟩, h q⟩)
  · intro a o l a' o' l' h; exact h
  · intro a o l a1 o1 l1 h hc; exact h
  · intro a o l a1 o1 l1 a' o' l' h hc g; exact fun q => g (h q)
  · intro a o l a1 o1 l1 a2 o2 l2 h hc g q
    exact List.forall_mem_cons.mpr ⟨⟨(fun z => absurd (show (3 : Int32) = 0 from z) (by decide)), fun _ => Or.inl hc⟩, g (h q)⟩
  · intro a o l hn q
    exact List.forall_mem_cons.mpr ⟨⟨(fun z => absurd (show (1 : Int32) = 0 from z) (by decide)), (fun z => absurd (show (1 : Int32) = 3 from z) (by decide))⟩, q⟩
  · intro a o l hn hd q
    refine List.forall_mem_cons.mpr ⟨⟨fun _ => ?_, (fun z => absurd (show (0 : Int32) = 3 from z) (by decide))⟩, q⟩
    obtain ⟨y, y1, y2⟩ := q_digB (P := P) (T := T) 4 a 0 (by decide) (Nat.le_refl 4)
    show 0 ≤ (m_dig P T 4 a 0).1
    rw [show (m_dig P T 4 a 0).1 = nI y from y2]
    exact nI_pos' (by omega)
  · intro a o l a1 o1 l1 hc ho h q
    exact List.forall_mem_cons.mpr ⟨⟨(fun z => absurd (show (2 : Int32) = 0 from z) (by decide)), (fun z => absurd (show (2 : Int32) = 3 from z) (by decide))⟩, h q⟩
  · intro a o l a' o' l' hc ho h; exact h
  · intro a o l hc ho; exact id
  · intro a o l a1 o1 l1 hc ho h hk; exact h
  · intro a o l a1 o1 l1 hc ho h hk; exact h
  · intro a o l a' o' l' hc ho h; exact h
  · intro a o l hc ho; exact id
  · intro a o l h1 h2 h3 h4; exact id
theorem q_okR {P : Nat} {T : Nat → Int32} {u a' o' : Nat} {l' : m_L} {bb : Bool} (h : m_R P T u 0 0 0 [] bb a' o' l') : q_ok l' := (h _ (q_ok_C P T u)) (fun s hs => by cases hs)
/-- a TEXT just read stands in both -/
theorem g_tuN {u b q : Nat} {N : Nat → Int32} {F : Nat → Nat → Int32} {s f g : Nat → Int32} {l : m_L} {cs : List Int32} (hl : l.length ≤ 60) (hk : N q = nI cs.length ∧ zz_st (F q) cs) (hc : cs = l.map (q_enc u)) (hs : s = zz_pl g (upd f b (nI l.length)) (b + 1) (2 * l.length)) (hg : m_st g l) (he : m_ef (m_nm u) l 0 1) (ho : q_ok l) : g_tu u b q N F s := by
  subst hc hs
  rw [List.length_map] at hk
  refine ⟨l, hl, hk.1, ?_, hk.2, m_st_cg l (fun j hj => ?_) hg, Or.inr he, ho⟩
  · unfold zz_pl
    rw [if_neg (by omega), px_upd_self]
  · unfold zz_pl
    rw [if_pos (by omega), show b + 1 + j - (b + 1) = j by omega]
theorem st_text0 : px_st 58 137 [.int 0] True := by
  intro Z N F Zm G h
  obtain ⟨-, -, ⟨-, -, ⟨a3, -⟩, -, -, a10, -⟩, -⟩ := id h
  obtain ⟨-, ⟨P, hP, hG8⟩, -⟩ := id h.2.1
  have hN5 : N 5 = nI P := a3.trans hG8
  have hT : ∀ j : Nat, j < P → F 5 j = G 0 (286 + j) := fun j hj => a10 j (by rw [hG8, nI_clamp (by omega)]; exact hj)
  refine px_st_ex (kc_text0 (T := fun j => G 0 (286 + j)) h.1 hP hN5 hT) (by decide) (kc_mtext0 (T := fun j => G 0 (286 + j)) hP hG8 (fun _ _ => rfl)) (by decide) (fun v h' v2 h2 q1 q2 => ?_)
  obtain ⟨x, hx, rfl, Z', N', F', rfl, k1, k2, k3, k4, k5, k6, k7⟩ := q1
  obtain ⟨bb, a', o', l', R', rfl, Zm', G', rfl, m1, m2, m3, m4⟩ := q2
  refine ⟨_, _, _, _, _, _, _, ⟨rfl, rfl⟩, ⟨rfl, rfl⟩, ?_, fun _ => ?_⟩
  rotate_left
  · subst hx
    have haP : a' ≤ P := R'.S.2.1 (Nat.zero_le P)
    have hq := (q_text (u := 0) (by omega) hP (fun i hi => h.tt.1 i (by rw [hG8, nI_clamp (by omega)]; exact hi)) R').1
    by_cases gd : bb = true ∧ a' = P
    · rw [if_pos gd] at hq
      rw [hq, if_pos rfl, if_pos gd]
    · rw [if_neg gd] at hq
      rw [hq, if_neg gd, if_neg (fun q => absurd (nI_pos' (n := a') (by omega)) (by rw [q]; decide))]
  have hq := q_text (u := 0) (by omega) hP (fun i hi => h.tt.1 i (by rw [hG8, nI_clamp (by omega)]; exact hi)) R'
  rw [← hx] at hq
  have hb := h.tapeNo
  have ht : ∃ g : Nat → Int32, G' 0 = g ∧ (∀ j : Nat, j < 36 ∨ 286 ≤ j → g j = upd (G 0) 8 0 j) ∧ r_txf0 g ∧ r_txf1 g ∧ g_tt 0 N' F' g := by
    by_cases gd : bb = true ∧ a' = P
    · obtain ⟨g, hg, e⟩ := m4 gd
      obtain ⟨rfl, gd2⟩ := gd
      obtain ⟨f1, f2⟩ := R'.ef
      have hl : l'.length ≤ 60 := Nat.le_trans f2 (Nat.le_trans (R'.S.2.1 (Nat.zero_le P)) hP)
      have htx := m_tx (b := 36) hl hg (m_ef_mono m_nm_ok0 l' f1) e
      refine ⟨G' 0, rfl, fun j hj => ?_, ?_⟩
      · rw [e]
        unfold zz_pl
        rw [if_neg (by omega), px_upd_ne _ _ (by omega)]
      · have ho := zz_txb (b := 161) (ok := r_ok1) (f := upd (G 0) 8 0) (g := G' 0) (fun j h1 h2 => by
          rw [e]
          unfold zz_pl
          rw [if_neg (by omega), px_upd_ne _ _ (by omega)]) (hb.tx1)
        exact ⟨Or.inr htx, ho, ⟨fun i hi => absurd hi (by rw [e]; unfold zz_pl; rw [if_neg (by omega), px_upd_ne _ _ (by omega), px_upd_self]; exact Nat.not_lt_zero i), g_tuN (b := 36) hl (k7 (hq.1.trans (if_pos ⟨rfl, gd2⟩))) (hq.2 ⟨rfl, gd2⟩) e hg f1 (q_okR R'), (hb.tt.2.2).cg ((k4 7 (by omega)).trans (px_upd_ne _ _ (by omega)).symm) (fun j _ => congrFun (k5 7 (by omega)) j) (fun j h1 h2 => by rw [e]; unfold zz_pl; rw [if_neg (by omega), px_upd_ne _ _ (by omega)]; rfl)⟩⟩
    · have kk := k6 (fun q => by
        rw [hq.1, if_neg gd] at q
        have haP : a' ≤ P := R'.S.2.1 (Nat.zero_le P)
        exact absurd (nI_pos' (n := a') (by omega)) (by rw [q]; decide))
      refine ⟨upd (G 0) 8 0, m3 gd, fun _ _ => rfl, hb.tx0, hb.tx1, hb.tt.cg ⟨?_, ?_⟩ ⟨?_, ?_⟩ (fun _ _ => rfl)⟩
      · exact kk.1.trans (px_upd_ne _ _ (by omega)).symm
      · exact (k4 7 (by omega)).trans (px_upd_ne _ _ (by omega)).symm
      · exact kk.2
      · exact k5 7 (by omega)
  obtain ⟨g, eg, hg1, hg2, hg3, hg4⟩ := ht
  have hfin := hb.text (N' := fun j => if j = 23 ∨ j = 24 then upd N 5 0 j else N' j) (F' := fun j => if j = 23 ∨ j = 24 then F j else F' j) (g := g) (fun j hj => ?_) (fun j hj => ?_) ?_ (fun j hj => (hg1 j hj)) hg2 hg3 (hg4.cg ⟨rfl, rfl⟩ ⟨rfl, rfl⟩ (fun _ _ => rfl))
  · refine hfin.sc (Z' := Z') (N' := N') (F' := F') ⟨fun i hi => k1 i (by omega), fun q hq => (if_neg (by omega)).symm, fun q hq => (if_neg (by omega)).symm, fun _ => k2⟩ ?_
    refine ⟨m1 0 (by omega), fun hh => by rw [m1 6 (by omega)]; exact hh, ?_, ?_, ?_, ?_, ?_, ?_, ?_⟩
    · rw [px_up_self]; exact eg
    all_goals (rw [px_up_ne _ _ (by omega), px_up_ne _ _ (by omega)]; exact m2 _ (by omega))
  · by_cases c : j = 23 ∨ j = 24
    · exact if_pos c
    · refine (if_neg c).trans ?_
      by_cases c5 : j = 5
      · subst c5; rw [k3, px_upd_self]
      · rw [px_upd_ne _ _ c5]; exact k4 j (by omega)
  · by_cases c : j = 23 ∨ j = 24
    · exact if_pos c
    · exact (if_neg c).trans (k5 j (by omega))
  · obtain ⟨w0, w1, w2, w3⟩ := k2
    obtain ⟨v0, v1, v2, v3⟩ := hb.1
    refine ⟨(if_neg (by omega)).trans w0, (if_neg (by omega)).trans w1, (if_neg (by omega)).trans w2, fun j hj => ?_⟩
    by_cases c : j = 23 ∨ j = 24
    · dsimp only
      rw [if_pos c]
      exact v3 j hj
    · dsimp only
      rw [if_neg c]
      exact w3 j hj
theorem st_text1 : px_st 58 137 [.int 1] True := by
  intro Z N F Zm G h
  obtain ⟨-, -, ⟨-, -, ⟨a3, -⟩, -, -, a10, -⟩, -⟩ := id h
  obtain ⟨-, ⟨P, hP, hG8⟩, -⟩ := id h.2.1
  have hN5 : N 5 = nI P := a3.trans hG8
  have hT : ∀ j : Nat, j < P → F 5 j = G 0 (286 + j) := fun j hj => a10 j (by rw [hG8, nI_clamp (by omega)]; exact hj)
  refine px_st_ex (kc_text1 (T := fun j => G 0 (286 + j)) h.1 hP hN5 hT) (by decide) (kc_mtext1 (T := fun j => G 0 (286 + j)) hP hG8 (fun _ _ => rfl)) (by decide) (fun v h' v2 h2 q1 q2 => ?_)
  obtain ⟨x, hx, rfl, Z', N', F', rfl, k1, k2, k3, k4, k5, k6, k7⟩ := q1
  obtain ⟨bb, a', o', l', R', rfl, Zm', G', rfl, m1, m2, m3, m4⟩ := q2
  refine ⟨_, _, _, _, _, _, _, ⟨rfl, rfl⟩, ⟨rfl, rfl⟩, ?_, fun _ => ?_⟩
  rotate_left
  · subst hx
    have haP : a' ≤ P := R'.S.2.1 (Nat.zero_le P)
    have hq := (q_text (u := 1) (by omega) hP (fun i hi => h.tt.1 i (by rw [hG8, nI_clamp (by omega)]; exact hi)) R').1
    by_cases gd : bb = true ∧ a' = P
    · rw [if_pos gd] at hq
      rw [hq, if_pos rfl, if_pos gd]
    · rw [if_neg gd] at hq
      rw [hq, if_neg gd, if_neg (fun q => absurd (nI_pos' (n := a') (by omega)) (by rw [q]; decide))]
  have hq := q_text (u := 1) (by omega) hP (fun i hi => h.tt.1 i (by rw [hG8, nI_clamp (by omega)]; exact hi)) R'
  rw [← hx] at hq
  have hb := h.tapeNo
  have ht : ∃ g : Nat → Int32, G' 0 = g ∧ (∀ j : Nat, j < 36 ∨ 286 ≤ j → g j = upd (G 0) 8 0 j) ∧ r_txf0 g ∧ r_txf1 g ∧ g_tt 0 N' F' g := by
    by_cases gd : bb = true ∧ a' = P
    · obtain ⟨g, hg, e⟩ := m4 gd
      obtain ⟨rfl, gd2⟩ := gd
      obtain ⟨f1, f2⟩ := R'.ef
      have hl : l'.length ≤ 60 := Nat.le_trans f2 (Nat.le_trans (R'.S.2.1 (Nat.zero_le P)) hP)
      have htx := m_tx (b := 161) hl hg (m_ef_mono m_nm_ok1 l' f1) e
      refine ⟨G' 0, rfl, fun j hj => ?_, ?_⟩
      · rw [e]
        unfold zz_pl
        rw [if_neg (by omega), px_upd_ne _ _ (by omega)]
      · have ho := zz_txb (b := 36) (ok := r_ok0) (f := upd (G 0) 8 0) (g := G' 0) (fun j h1 h2 => by
          rw [e]
          unfold zz_pl
          rw [if_neg (by omega), px_upd_ne _ _ (by omega)]) (hb.tx0)
        exact ⟨ho, Or.inr htx, ⟨fun i hi => absurd hi (by rw [e]; unfold zz_pl; rw [if_neg (by omega), px_upd_ne _ _ (by omega), px_upd_self]; exact Nat.not_lt_zero i), (hb.tt.2.1).cg ((k4 6 (by omega)).trans (px_upd_ne _ _ (by omega)).symm) (fun j _ => congrFun (k5 6 (by omega)) j) (fun j h1 h2 => by rw [e]; unfold zz_pl; rw [if_neg (by omega), px_upd_ne _ _ (by omega)]; rfl), g_tuN (b := 161) hl (k7 (hq.1.trans (if_pos ⟨rfl, gd2⟩))) (hq.2 ⟨rfl, gd2⟩) e hg f1 (q_okR R')⟩⟩
    · have kk := k6 (fun q => by
        rw [hq.1, if_neg gd] at q
        have haP : a' ≤ P := R'.S.2.1 (Nat.zero_le P)
        exact absurd (nI_pos' (n := a') (by omega)) (by rw [q]; decide))
      refine ⟨upd (G 0) 8 0, m3 gd, fun _ _ => rfl, hb.tx0, hb.tx1, hb.tt.cg ⟨?_, ?_⟩ ⟨?_, ?_⟩ (fun _ _ => rfl)⟩
      · exact (k4 6 (by omega)).trans (px_upd_ne _ _ (by omega)).symm
      · exact kk.1.trans (px_upd_ne _ _ (by omega)).symm
      · exact k5 6 (by omega)
      · exact kk.2
  obtain ⟨g, eg, hg1, hg2, hg3, hg4⟩ := ht
  have hfin := hb.text (N' := fun j => if j = 23 ∨ j = 24 then upd N 5 0 j else N' j) (F' := fun j => if j = 23 ∨ j = 24 then F j else F' j) (g := g) (fun j hj => ?_) (fun j hj => ?_) ?_ (fun j hj => (hg1 j hj)) hg2 hg3 (hg4.cg ⟨rfl, rfl⟩ ⟨rfl, rfl⟩ (fun _ _ => rfl))
  · refine hfin.sc (Z' := Z') (N' := N') (F' := F') ⟨fun i hi => k1 i (by omega), fun q hq => (if_neg (by omega)).symm, fun q hq => (if_neg (by omega)).symm, fun _ => k2⟩ ?_
    refine ⟨m1 0 (by omega), fun hh => by rw [m1 6 (by omega)]; exact hh, ?_, ?_, ?_, ?_, ?_, ?_, ?_⟩
    · rw [px_up_self]; exact eg
    all_goals (rw [px_up_ne _ _ (by omega), px_up_ne _ _ (by omega)]; exact m2 _ (by omega))
  · by_cases c : j = 23 ∨ j = 24
    · exact if_pos c
    · refine (if_neg c).trans ?_
      by_cases c5 : j = 5
      · subst c5; rw [k3, px_upd_self]
      · rw [px_upd_ne _ _ c5]; exact k4 j (by omega)
  · by_cases c : j = 23 ∨ j = 24
    · exact if_pos c
    · exact (if_neg c).trans (k5 j (by omega))
  · obtain ⟨w0, w1, w2, w3⟩ := k2
    obtain ⟨v0, v1, v2, v3⟩ := hb.1
    refine ⟨(if_neg (by omega)).trans w0, (if_neg (by omega)).trans w1, (if_neg (by omega)).trans w2, fun j hj => ?_⟩
    by_cases c : j = 23 ∨ j = 24
    · dsimp only
      rw [if_pos c]
      exact v3 j hj
    · dsimp only
      rw [if_neg c]
      exact w3 j hj
theorem st_textT (use : Int32) : px_st 58 137 [.int use] True := by
  by_cases c0 : use = 0
  · subst c0; exact st_text0
  by_cases c1 : use = 1
  · subst c1; exact st_text1
  intro Z N F Zm G h
  exact px_st_of (kc_textB h.1 use (fun q => q.elim c0 c1)) (by decide) (kc_mtextB use (fun q => q.elim c0 c1)) (by decide) h (fun _ => rfl)
end
/-! part 66.w5.lawT -/
section
/-! TEXTS worked out: both alike (66.w5: by hand) -/
theorem zz_heldEq (x lo hi : Int32) (h : lo ≤ hi) : i_max lo (i_min hi x) = i_held x lo hi := by
  unfold i_max i_min i_held
  simp only [Int32.lt_iff_toInt_lt, Int32.le_iff_toInt_le] at h ⊢
  by_cases c3 : x.toInt < hi.toInt
  · rw [if_pos c3]
    by_cases c4 : lo.toInt < x.toInt
    · rw [if_pos c4, if_pos (show lo.toInt ≤ x.toInt by omega), if_pos (show x.toInt ≤ hi.toInt by omega)]
    · rw [if_neg c4]
      by_cases c1 : lo.toInt ≤ x.toInt
      · rw [if_pos c1, if_pos (show x.toInt ≤ hi.toInt by omega)]
        exact Int32.toInt_inj.mp (by omega)
      · rw [if_neg c1]
  · rw [if_neg c3, if_pos (show lo.toInt ≤ x.toInt by omega)]
    have e : (if lo.toInt < hi.toInt then hi else lo) = hi := by
      split
      · rfl
      · exact Int32.toInt_inj.mp (by omega)
    rw [e]
    by_cases c2 : x.toInt ≤ hi.toInt
    · rw [if_pos c2]
      exact Int32.toInt_inj.mp (by omega)
    · rw [if_neg c2]
theorem zz_negneg1 (x : Int32) : x / -1 * -1 = x := by
  rw [zz_divm1, Int32.neg_mul, Int32.mul_comm, Int32.neg_mul, Int32.neg_neg]
  simp
theorem e_join {s : Int32} (h : m_cp s ∨ ∃ L : Nat, m_sg L s) (x y : Int32) : s_join (-(-s)) y x = s_mjoin s x y := by
  rw [Int32.neg_neg]
  have e37 : s_join 37 y x = s_mjoin 37 x y := by
    show i_rem x y = if y = 0 then 0 else if y = (-1) then 0 else (x - x / y * y)
    unfold i_rem
    by_cases c : y = 0
    · rw [if_pos c, if_pos c]
    · rw [if_neg c, if_neg c]
      by_cases c1 : y = -1
      · rw [if_pos c1, c1, zz_negneg1, Int32.sub_self]
      · rw [if_neg c1]
  have e47 : s_join 47 y x = s_mjoin 47 x y := by
    show i_quo x y = if y = 0 then 0 else if y = (-1) then (-x) else (x / y)
    unfold i_quo
    by_cases c : y = 0
    · rw [if_pos c, if_pos c]
    · rw [if_neg c, if_neg c]
      by_cases c1 : y = -1
      · rw [if_pos c1, c1, zz_divm1]
      · rw [if_neg c1]
  rcases h with (rfl | rfl | rfl) | ⟨L, ⟨-, rfl⟩ | ⟨-, rfl⟩ | ⟨-, rfl | rfl⟩ | ⟨-, rfl | rfl | rfl⟩⟩
  · rfl
  · rfl
  · rfl
  · rfl
  · rfl
  · rfl
  · rfl
  · rfl
  · exact e47
  · exact e37
/-- a step that both take alike -/
def e_val (u : Nat) (s : Int32 × Int32) : Prop := (s.1 = 0 ∧ 0 ≤ s.2) ∨ (s.1 = 1 ∧ m_nm u s.2) ∨ s.1 = 2 ∨ (s.1 = 3 ∧ (m_cp s.2 ∨ ∃ L : Nat, m_sg L s.2))
def e_nm (u : Nat) (a b c v : Int32) : Int32 := if u = 0 then r_nm0 a b c v else r_nm1 a b c v
theorem e_evc {u : Nat} {a b c : Int32} {w v : Int32} (h : e_val u (w, v)) (st : List Int32) : s_evc a b c (q_enc u (w, v)) st = r_evc (e_nm u a b c) w v st := by
  rcases h with ⟨h, h2⟩ | ⟨h, h2⟩ | h | ⟨h, h2⟩
  · have h : w = 0 := h
    subst h
    have h2 : 0 ≤ v := h2
    have ne : ∀ k : Int32, k < 0 → ¬ (v = k) := fun k hk q => by
      subst q
      rw [Int32.le_iff_toInt_le] at h2
      rw [Int32.lt_iff_toInt_lt] at hk
      omega
    show s_evc a b c v st = v :: st
    unfold s_evc
    rw [if_neg (ne (-33) (by decide)), if_neg (ne (-3) (by decide)), if_neg (ne (-2) (by decide)), if_neg (ne (-1) (by decide)), if_neg (Int32.not_lt.mpr h2)]
  · have h : w = 1 := h
    subst h
    rcases h2 with ⟨rfl, h2 | h2 | h2⟩ | ⟨rfl, h2 | h2 | h2⟩ <;> (have h2 : v = _ := h2; subst h2; rfl)
  · have h : w = 2 := h
    subst h
    rfl
  · have h : w = 3 := h
    subst h
    have h2 : m_cp v ∨ ∃ L : Nat, m_sg L v := h2
    have ej := e_join h2 (st.tail.headD 0) (st.headD 0)
    show s_evc a b c (-v) st = s_mjoin v (st.tail.headD 0) (st.headD 0) :: st.tail.tail
    rw [← ej]
    rcases h2 with (rfl | rfl | rfl) | ⟨L, ⟨-, rfl⟩ | ⟨-, rfl⟩ | ⟨-, rfl | rfl⟩ | ⟨-, rfl | rfl | rfl⟩⟩ <;> rfl
theorem e_evs {u : Nat} {a b c : Int32} {g wt v : Nat → Int32} : ∀ (m k : Nat) (st : List Int32), (∀ j : Nat, k ≤ j → j < k + m → g j = q_enc u (wt j, v j) ∧ e_val u (wt j, v j)) → s_evs g a b c m k st = r_evs (e_nm u a b c) wt v m k st
  | 0, _, _, _ => rfl
  | m + 1, k, st, h => by
    obtain ⟨e1, e2⟩ := h k (Nat.le_refl k) (by omega)
    show s_evs g a b c m (k + 1) (s_evc a b c (g k) st) = r_evs (e_nm u a b c) wt v m (k + 1) (r_evc (e_nm u a b c) (wt k) (v k) st)
    rw [e1, e_evc e2]
    exact e_evs m (k + 1) _ (fun j h1 h2 => h j (by omega) (by omega))
theorem zz_st_get {g : Nat → Int32} : ∀ (l : List Int32), zz_st g l → ∀ i : Nat, i < l.length → g i = l.getD (l.length - 1 - i) 0
  | [], _, i, hi => absurd hi (Nat.not_lt_zero i)
  | p :: r, h, i, hi => by
    simp only [List.length_cons, Nat.add_sub_cancel] at hi ⊢
    rcases Nat.lt_or_ge i r.length with c | c
    · rw [show r.length - i = (r.length - 1 - i) + 1 by omega, List.getD_cons_succ]
      exact zz_st_get r h.2 i c
    · obtain rfl : i = r.length := by omega
      rw [Nat.sub_self, List.getD_cons_zero]
      exact h.1
theorem m_ef_val {u : Nat} : ∀ (l : m_L) {d d' : Nat}, m_ef (m_nm u) l d d' → q_ok l → ∀ s ∈ l, e_val u s
  | [], _, _, _, _, s, hs => by cases hs
  | p :: r, d, d', ⟨d1, h1, h2⟩, ho, s, hs => by
    rcases List.mem_cons.mp hs with rfl | hs
    · have k := ho s List.mem_cons_self
      rcases h2 with ⟨q, -⟩ | ⟨q, q2, -⟩ | ⟨q, -⟩ | ⟨q, -⟩
      · exact Or.inl ⟨q, k.1 q⟩
      · exact Or.inr (Or.inl ⟨q, q2⟩)
      · exact Or.inr (Or.inr (Or.inl q))
      · exact Or.inr (Or.inr (Or.inr ⟨q, k.2 q⟩))
    · exact m_ef_val r h1 (fun s hs => ho s (List.mem_cons_of_mem _ hs)) s hs
theorem e_getD_map (u : Nat) : ∀ (l : m_L) (i : Nat), i < l.length → (l.map (q_enc u)).getD i 0 = q_enc u (l.getD i (0, 0))
  | [], i, hi => absurd hi (Nat.not_lt_zero i)
  | p :: r, 0, _ => rfl
  | p :: r, i + 1, hi => by
    rw [List.map_cons, List.getD_cons_succ, List.getD_cons_succ]
    exact e_getD_map u r i (by simpa using hi)
theorem e_getD_mem : ∀ (l : m_L) (i : Nat), i < l.length → l.getD i (0, 0) ∈ l
  | [], i, hi => absurd hi (Nat.not_lt_zero i)
  | p :: r, 0, _ => List.mem_cons_self
  | p :: r, i + 1, hi => by
    rw [List.getD_cons_succ]
    exact List.mem_cons_of_mem _ (e_getD_mem r i (by simpa using hi))
theorem g_tu.evs {u b q : Nat} {N : Nat → Int32} {F : Nat → Nat → Int32} {f : Nat → Int32} (h : g_tu u b q N F f) (x y z : Int32) : s_evs (F q) x y z (N q).toNatClampNeg 0 [] = r_evs (e_nm u x y z) (fun k => f (b + 1 + 2 * k)) (fun k => f (b + 2 + 2 * k)) (f b).toNatClampNeg 0 [] := by
  obtain ⟨l, h1, h2, h3, h4, h5, h6, h7⟩ := h
  rw [h2, h3, nI_clamp (by omega)]
  refine e_evs _ _ _ (fun j _ hj => ?_)
  have hj : j < l.length := by omega
  have k1 := zz_st_get _ h4 j (by rw [List.length_map]; exact hj)
  rw [List.length_map, e_getD_map u l _ (by omega)] at k1
  obtain ⟨k2, k3⟩ := m_st_get l h5 j hj
  have k2 : f (b + 1 + 2 * j) = (l.getD (l.length - 1 - j) (0, 0)).1 := k2
  have k3 : f (b + 2 + 2 * j) = (l.getD (l.length - 1 - j) (0, 0)).2 := by
    rw [← k3]
    exact congrArg f (by omega)
  rw [k1, k2, k3]
  refine ⟨rfl, ?_⟩
  rcases h6 with rfl | h6
  · exact absurd hj (Nat.not_lt_zero j)
  · exact m_ef_val l h6 h7 _ (e_getD_mem l _ (by omega))
theorem RR.ruled0 {Z N Zm : Nat → Int32} {F G : Nat → Nat → Int32} (h : RR Z N F Zm G) (a b c : Int32) : s_ruled0 N F a b c = s_mtold0 G a b c := by
  have hx := h.tt.2.1
  have e := g_tu_has hx
  have ev := hx.evs a b c
  unfold s_ruled0 s_mtold0
  by_cases c0 : N 6 ≤ 0
  · rw [if_pos c0, if_neg (e.mp c0)]
    exact zz_heldEq _ 0 99 (by decide)
  · rw [if_neg c0, if_pos (Decidable.byContradiction (fun q => c0 (e.mpr q)))]
    refine (zz_heldEq _ 0 99 (by decide)).trans (congrArg (fun z => i_held z 0 99) ?_)
    exact congrArg (fun l : List Int32 => l.headD 0) ev
theorem RR.ruled1 {Z N Zm : Nat → Int32} {F G : Nat → Nat → Int32} (h : RR Z N F Zm G) (a b c : Int32) : s_ruled1 N F a b c = s_mtold1 G a b c := by
  have hx := h.tt.2.2
  have e := g_tu_has hx
  have ev := hx.evs a b c
  unfold s_ruled1 s_mtold1
  by_cases c0 : N 7 ≤ 0
  · rw [if_pos c0, if_neg (e.mp c0)]
    exact zz_heldEq _ (-99) 99 (by decide)
  · rw [if_neg c0, if_pos (Decidable.byContradiction (fun q => c0 (e.mpr q)))]
    refine (zz_heldEq _ (-99) 99 (by decide)).trans (congrArg (fun z => i_held z (-99) 99) ?_)
    exact congrArg (fun l : List Int32 => l.headD 0) ev
theorem st_lawT (use a b c : Int32) : px_st 60 167 [.int use, .int a, .int b, .int c] True := by
  intro Z N F Zm G h
  have t0 : r_tx0 G := h.tx0
  have t1 : r_tx1 G := h.tx1
  by_cases c0 : use = 0
  · subst c0
    exact px_st_of (kc_law0 h.1 a b c) (by decide) (kc_mlaw t0 t1 0 a b c) (by decide) h (fun _ => h.ruled0 a b c)
  by_cases c1 : use = 1
  · subst c1
    exact px_st_of (kc_law1 h.1 a b c) (by decide) (kc_mlaw t0 t1 1 a b c) (by decide) h (fun _ => h.ruled1 a b c)
  · refine px_st_of (kc_lawB h.1 use a b c (fun q => q.elim c0 c1)) (by decide) (kc_mlaw t0 t1 use a b c) (by decide) h (fun _ => ?_)
    refine (if_neg (fun q => ?_)).symm
    obtain ⟨e, hl⟩ := px_in5 (n := 1) (by decide) q
    rcases (show use.toNatClampNeg = 0 ∨ use.toNatClampNeg = 1 by omega) with h | h
    · exact c0 (by rw [e, h]; rfl)
    · exact c1 (by rw [e, h]; rfl)
end
/-! part 66.w6.harm -/
section
/-! HARM of a THING on a row: closed forms against the pieces (66.w6: by hand) -/
theorem h_cnt (x y : Nat) : ∀ n : Nat, zz_cnt (fun k => decide (k < x ∧ ¬ (k < y))) n 0 0 = min n x - min n y
  | 0 => by rw [Nat.zero_min, Nat.zero_min]; rfl
  | n + 1 => by
    rw [zz_cnt_snoc, h_cnt x y n]
    by_cases c : 0 + n < x ∧ ¬ (0 + n < y)
    · rw [if_pos (decide_eq_true c)]; omega
    · rw [if_neg (fun q => c (of_decide_eq_true q))]; omega
theorem h_imin {a b : Nat} (ha : a < 100000000) (hb : b < 100000000) : i_min (nI a) (nI b) = nI (min a b) := by
  unfold i_min
  by_cases c : b < a
  · rw [if_pos (nI_lt c (by omega)), show min a b = b by omega]
  · rw [if_neg (nI_nlt (by omega) (by omega)), show min a b = a by omega]
/-- of a row so many pieces end not behind a place -/
def h_enb (e w T J a : Nat) : Nat := if a < e then (if w ≤ a then 1 + (a - w) / (T + J) else 0) else r_pcs e w T J
theorem h_end {e w T J k : Nat} (hT : 0 < T) (he : 0 < e) (hk : k < r_pcs e w T J) : r_beg w T J k + r_wid e w T J k = min e (w + k * (T + J)) := by
  have h1 := r_pcs_lt hT he hk
  have h2 := r_bw w T J k
  unfold r_wid
  split <;> omega
theorem h_enb_iff {e w T J a k : Nat} (hT : 0 < T) (he : 0 < e) (hk : k < r_pcs e w T J) : r_beg w T J k + r_wid e w T J k ≤ a ↔ k < h_enb e w T J a := by
  rw [h_end hT he hk]
  unfold h_enb
  by_cases c : a < e
  · rw [if_pos c]
    by_cases c2 : w ≤ a
    · rw [if_pos c2]
      have h1 : k < 1 + (a - w) / (T + J) ↔ k * (T + J) ≤ a - w := by
        rw [Nat.add_comm, Nat.lt_succ_iff, Nat.le_div_iff_mul_le (by omega)]
      rw [h1]
      generalize k * (T + J) = q
      omega
    · rw [if_neg c2]
      generalize k * (T + J) = q
      omega
  · rw [if_neg c]
    generalize k * (T + J) = q
    omega
theorem h_enb_le {e w T J a : Nat} (hT : 0 < T) : h_enb e w T J a ≤ r_pcs e w T J := by
  unfold h_enb
  split
  · split
    · have h1 : (a - w) / (T + J) * (T + J) ≤ a - w := Nat.div_mul_le_self _ _
      generalize (a - w) / (T + J) = k at h1 ⊢
      cases k with
      | zero => unfold r_pcs; omega
      | succ k =>
        have h2 : k < r_beh w T J e := (r_beh_iff hT).mpr (by
          rw [r_beg_s]
          rw [Nat.add_mul] at h1
          omega)
        unfold r_pcs
        omega
    · omega
  · exact Nat.le_refl _
theorem h_beg_b {w T J k b : Nat} (hT : 0 < T) (hb : 1 ≤ b) : r_beg w T J k < b ↔ k < 1 + r_beh w T J b := by
  cases k with
  | zero =>
    show 0 < b ↔ _
    omega
  | succ k =>
    rw [← r_beh_iff hT]
    omega
theorem h_AB (e w T J k : Nat) : r_A w T J k + r_B e w T J k = nI (r_beg w T J k + r_wid e w T J k) := nI_add _ _
theorem h_jo {e w T J a b : Nat} (hT : 0 < T) (he : 0 < e) (he2 : e ≤ 5000) (ha : a ≤ 5000) (hb : b ≤ 5000) : r_jo (r_A w T J) (r_B e w T J) (r_pcs e w T J) (nI a) (nI b) = nI (min (r_pcs e w T J - 1) (r_beh w T J (b + J + 1)) - min (r_pcs e w T J - 1) (r_beh w T J a)) := by
  unfold r_jo
  refine congrArg nI ?_
  rw [← h_cnt]
  refine zz_cnt_congr _ _ _ (fun j _ hj => ?_)
  have hj1 : j + 1 < r_pcs e w T J := by omega
  have h1 := r_pcs_lt hT he hj1
  have h2 := h_end hT he (show j < r_pcs e w T J by omega)
  have h3 := r_beg_s w T J j
  refine decide_eq_decide.mpr ?_
  rw [h_AB, show r_A w T J (j + 1) = nI (r_beg w T J (j + 1)) from rfl, nI_ltI (by omega) (by omega), nI_ltI (by omega) (by omega), r_beh_iff hT, r_beh_iff hT]
  generalize j * (T + J) = q at h2 h3
  omega
theorem h_to {e w T J a b : Nat} (hT : 0 < T) (he : 0 < e) (he2 : e ≤ 5000) (ha : a ≤ 5000) (hb1 : 1 ≤ b) (hb : b ≤ 5000) : r_to (r_A w T J) (r_B e w T J) (r_pcs e w T J) (nI a) (nI b) = nI (min (r_pcs e w T J) (1 + r_beh w T J b) - h_enb e w T J a) := by
  unfold r_to
  refine congrArg nI ?_
  have hE := h_enb_le (e := e) (w := w) (J := J) (a := a) hT
  rw [show min (r_pcs e w T J) (1 + r_beh w T J b) - h_enb e w T J a = min (r_pcs e w T J) (1 + r_beh w T J b) - min (r_pcs e w T J) (h_enb e w T J a) by omega, ← h_cnt]
  refine zz_cnt_congr _ _ _ (fun j _ hj => ?_)
  have hj1 : j < r_pcs e w T J := by omega
  have h1 := r_pcs_lt hT he hj1
  have h2 := h_end hT he hj1
  refine decide_eq_decide.mpr ?_
  rw [h_AB, show r_A w T J j = nI (r_beg w T J j) from rfl, nI_leI (by omega) (by omega), nI_leI (by omega) (by omega), ← h_beg_b hT hb1, ← h_enb_iff hT he hj1]
  omega
theorem h_hi {Z : Nat → Int32} {e w T J a b : Nat} (h : rw_ok Z e w T J) : r_hi (nI T) (r_A w T J) (r_B e w T J) (r_pcs e w T J) (nI a) (nI b) = w_ofE Z (w_hid Z 0 (nI a) (nI b)) (w_hid Z (Z 10 - 1) (nI a) (nI b)) := by
  obtain ⟨⟨h6, h7, h8, h9, h10⟩, b1, b2, b3, b4, b5, b6, b7⟩ := id h
  have hP := r_pcs_le (w := w) (J := J) b3 b7
  have hP1 := r_pcs_pos e w T J
  have key : ∀ k : Nat, k < r_pcs e w T J → w_hid Z (nI k) (nI a) (nI b) = if (decide (¬ (nI T ≤ r_B e w T J k) ∧ ¬ (r_A w T J k < nI a) ∧ ¬ (nI b < r_A w T J k + r_B e w T J k))) = true then 1 else 0 := by
    intro k hk
    unfold w_hid w_cut
    rw [w_wid_n h hk, w_beg_n h6 h8 h9 k (by omega), w_end_n h6 h7 h8 h9 (by omega) b4 b5 (by omega) k (by omega), ← h_end (by omega) (by omega) hk, h8, h_AB]
    show (if (if nI T ≤ r_B e w T J k then (0 : Int32) else 1) = 0 ∨ r_A w T J k < nI a ∨ nI b < nI (r_beg w T J k + r_wid e w T J k) then (0 : Int32) else 1) = _
    by_cases c1 : nI T ≤ r_B e w T J k
    · rw [if_pos c1, if_pos (Or.inl rfl), if_neg (fun q => (of_decide_eq_true q).1 c1)]
    · rw [if_neg c1]
      by_cases c2 : r_A w T J k < nI a
      · rw [if_pos (Or.inr (Or.inl c2)), if_neg (fun q => (of_decide_eq_true q).2.1 c2)]
      · by_cases c3 : nI b < nI (r_beg w T J k + r_wid e w T J k)
        · rw [if_pos (Or.inr (Or.inr c3)), if_neg (fun q => (of_decide_eq_true q).2.2 c3)]
        · rw [if_neg (fun q => q.elim (fun q => absurd q (by decide)) (fun q => q.elim c2 c3)), if_pos (decide_eq_true ⟨c1, c2, c3⟩)]
  rw [rw_last h, show (0 : Int32) = nI 0 from rfl, w_ofE_n h10 hP (key 0 (by omega)) (key (r_pcs e w T J - 1) (by omega))]
  unfold r_hi
  rw [zz_edges hP1 (fun j h0 h1 => ?_)]
  refine decide_eq_false (fun q => q.1 ?_)
  rw [show r_B e w T J j = nI (r_wid e w T J j) from rfl, r_mid (by omega) (by omega) h0 h1]
  exact nI_le (Nat.le_refl T) (by omega)
def h_ap (x y : Nat) : Nat := if y ≤ x then x - y else y - x
theorem s_ap_n {x y : Nat} (hx : x < 100000) (hy : y < 100000) : s_ap (nI x) (nI y) = nI (h_ap x y) := by
  unfold s_ap h_ap
  by_cases c : y ≤ x
  · rw [if_pos (nI_le c (by omega)), if_pos c, zz_sub c]
  · rw [if_neg (nI_ge (by omega) (by omega)), if_neg c, zz_sub (by omega)]
/-- of places that grow the nearest one -/
def h_nr (s : Nat → Nat) (P n x : Nat) : Nat := if P ≤ n then x - s (n - 1) else if n = 0 then s 0 - x else min (x - s (n - 1)) (s n - x)
theorem h_near {s : Nat → Nat} {P x n : Nat} (hP : 1 ≤ P) (hm : ∀ j k : Nat, j ≤ k → k < P → s j ≤ s k) (h1 : n ≤ P) (h2 : 1 ≤ n → s (n - 1) ≤ x) (h3 : n < P → x ≤ s n) : (∀ j : Nat, j < P → h_nr s P n x ≤ h_ap (s j) x) ∧ ∃ j : Nat, j < P ∧ h_nr s P n x = h_ap (s j) x := by
  unfold h_nr h_ap
  constructor
  · intro j hj
    by_cases c : j < n
    · have k1 := hm j (n - 1) (by omega) (by omega)
      have k2 := h2 (by omega)
      repeat' split
      all_goals omega
    · have k1 := hm n j (by omega) hj
      have k2 := h3 (by omega)
      have k3 := hm 0 j (by omega) hj
      by_cases c0 : n = 0
      · subst c0
        repeat' split
        all_goals omega
      · have k4 := h2 (by omega)
        repeat' split
        all_goals omega
  · by_cases c : P ≤ n
    · have k2 := h2 (by omega)
      refine ⟨n - 1, by omega, ?_⟩
      rw [if_pos c]
      split <;> omega
    · rw [if_neg c]
      have k3 := h3 (by omega)
      by_cases c0 : n = 0
      · subst c0
        refine ⟨0, by omega, ?_⟩
        rw [if_pos rfl, if_pos k3]
      · have k2 := h2 (by omega)
        rw [if_neg c0]
        by_cases cm : x - s (n - 1) ≤ s n - x
        · refine ⟨n - 1, by omega, ?_⟩
          split <;> omega
        · refine ⟨n, by omega, ?_⟩
          split <;> omega
def h_fold (d1 d2 : Nat → Nat) : Nat → Nat → Nat → Nat
  | 0, _, a => a
  | n + 1, k, a => h_fold d1 d2 n (k + 1) (min (min a (d1 k)) (d2 k))
theorem h_fold_min {d1 d2 : Nat → Nat} {m : Nat} : ∀ (n k a : Nat), (∀ j : Nat, k ≤ j → j < k + n → m ≤ d1 j ∧ m ≤ d2 j) → m ≤ a → (m = a ∨ ∃ j : Nat, k ≤ j ∧ j < k + n ∧ (m = d1 j ∨ m = d2 j)) → h_fold d1 d2 n k a = m
  | 0, k, a, _, _, h3 => by
    rcases h3 with h3 | ⟨j, h4, h5, -⟩
    · exact h3.symm
    · omega
  | n + 1, k, a, h1, h2, h3 => by
    have hk := h1 k (Nat.le_refl k) (by omega)
    refine h_fold_min n (k + 1) _ (fun j h4 h5 => h1 j (by omega) (by omega)) (by omega) ?_
    rcases h3 with h3 | ⟨j, h4, h5, h6⟩
    · exact Or.inl (by omega)
    · rcases Nat.eq_or_lt_of_le h4 with rfl | h4
      · exact Or.inl (by omega)
      · exact Or.inr ⟨j, h4, by omega, h6⟩
theorem zz_gp_n {A B : Nat → Int32} {f t : Int32} {d1 d2 : Nat → Nat} {P : Nat} (h : ∀ k : Nat, k < P → (s_ap (A k) f = nI (d1 k) ∧ d1 k < 100000) ∧ s_ap (A k + B k) t = nI (d2 k) ∧ d2 k < 100000) : ∀ (n k a : Nat), k + n = P → a < 100000 → zz_gp A B f t n k (nI a) = nI (h_fold d1 d2 n k a)
  | 0, _, _, _, _ => rfl
  | n + 1, k, a, hk, ha => by
    obtain ⟨⟨e1, l1⟩, e2, l2⟩ := h k (by omega)
    show zz_gp A B f t n (k + 1) (s_gp1 (nI a) (s_ap (A k) f) (s_ap (A k + B k) t)) = nI (h_fold d1 d2 n (k + 1) (min (min a (d1 k)) (d2 k)))
    have em : s_gp1 (nI a) (s_ap (A k) f) (s_ap (A k + B k) t) = nI (min (min a (d1 k)) (d2 k)) := by
      rw [e1, e2]
      unfold s_gp1
      have m1 : (if nI a ≤ nI (d1 k) then nI a else nI (d1 k)) = nI (min a (d1 k)) := by
        by_cases c : a ≤ d1 k
        · rw [if_pos (nI_le c (by omega)), show min a (d1 k) = a by omega]
        · rw [if_neg (nI_ge (by omega) (by omega)), show min a (d1 k) = d1 k by omega]
      rw [m1]
      by_cases c : min a (d1 k) ≤ d2 k
      · rw [if_pos (nI_le c (by omega)), show min (min a (d1 k)) (d2 k) = min a (d1 k) by omega]
      · rw [if_neg (nI_ge (by omega) (by omega)), show min (min a (d1 k)) (d2 k) = d2 k by omega]
    rw [em]
    exact zz_gp_n h n (k + 1) _ (by omega) (by omega)
theorem h_beg_mono (w T J : Nat) {j : Nat} : ∀ k : Nat, j ≤ k → r_beg w T J j ≤ r_beg w T J k
  | 0, h => by
    obtain rfl : j = 0 := by omega
    exact Nat.le_refl _
  | k + 1, h => by
    rcases Nat.eq_or_lt_of_le h with rfl | h
    · exact Nat.le_refl _
    · have g := h_beg_mono w T J k (Nat.le_of_lt_succ h)
      show _ ≤ r_beg w T J k + (r_wd w T k + J)
      omega
theorem h_end_mono {e w T J j k : Nat} (hT : 0 < T) (he : 0 < e) (h : j ≤ k) (hk : k < r_pcs e w T J) : r_beg w T J j + r_wid e w T J j ≤ r_beg w T J k + r_wid e w T J k := by
  rw [h_end hT he (by omega), h_end hT he hk]
  have g := Nat.mul_le_mul_right (T + J) h
  generalize j * (T + J) = p at g ⊢
  generalize k * (T + J) = q at g ⊢
  omega
/-- the gap -/
theorem h_ga {Z : Nat → Int32} {e w T J a b : Nat} (h : rw_ok Z e w T J) (ha : a ≤ 4000) (hb1 : 1 ≤ b) (hb : b ≤ 4999) : i_min (w_gb Z (1 + i_min (Z 10 - 1) (w_beh Z (nI a))) (nI a)) (w_ge Z (w_enb Z (nI b)) (nI b)) = r_ga (r_A w T J) (r_B e w T J) (r_pcs e w T J) (nI a) (nI b) := by
  obtain ⟨⟨h6, h7, h8, h9, h10⟩, b1, b2, b3, b4, b5, b6, b7⟩ := id h
  have hT : 0 < T := by omega
  have he : 0 < e := by omega
  have hP := r_pcs_le (w := w) (J := J) b3 b7
  have hP1 := r_pcs_pos e w T J
  have hba := r_beh_le (w := w) (J := J) (x := a) b3 (by omega)
  have hE := h_enb_le (e := e) (w := w) (J := J) (a := b) hT
  have hbe : ∀ k : Nat, k < r_pcs e w T J → r_beg w T J k < e := fun k hk => r_pcs_lt hT he hk
  have hen : ∀ k : Nat, k < r_pcs e w T J → r_beg w T J k + r_wid e w T J k ≤ e := fun k hk => by
    rw [h_end hT he hk]
    generalize k * (T + J) = q
    omega
  -- the numbers of pieces
  have e1 : i_min (Z 10 - 1) (w_beh Z (nI a)) = nI (min (r_pcs e w T J - 1) (r_beh w T J a)) := by
    rw [rw_last h, w_beh_n h6 h8 h9 (by omega) b3 b4 b5 (by omega), h_imin (by omega) (by omega)]
  obtain ⟨n1, hn1⟩ : ∃ n1, n1 = 1 + min (r_pcs e w T J - 1) (r_beh w T J a) := ⟨_, rfl⟩
  have e2 : (1 : Int32) + nI (min (r_pcs e w T J - 1) (r_beh w T J a)) = nI n1 := by rw [hn1]; exact nI_add 1 _
  have u3 : r_beg w T J (n1 - 1) ≤ a := by
    rcases Nat.eq_zero_or_pos (n1 - 1) with q | q
    · rw [q]; exact Nat.zero_le a
    · have g := (r_beh_iff (w := w) (T := T) (J := J) (x := a) (k := n1 - 1 - 1) hT).mp (by omega)
      rw [show n1 - 1 - 1 + 1 = n1 - 1 by omega] at g
      omega
  have u4 : n1 < r_pcs e w T J → a ≤ r_beg w T J n1 := by
    intro q
    have g := (r_beh_iff (w := w) (T := T) (J := J) (x := a) (k := n1 - 1) hT)
    rw [show n1 - 1 + 1 = n1 by omega] at g
    have : ¬ (n1 - 1 < r_beh w T J a) := by omega
    rw [g] at this
    omega
  have eG : w_gb Z (nI n1) (nI a) = nI (h_nr (r_beg w T J) (r_pcs e w T J) n1 a) := by
    unfold w_gb h_nr
    rw [h10, show nI n1 - 1 = nI (n1 - 1) from zz_sub (b := 1) (by omega), w_beg_n h6 h8 h9 (n1 - 1) (by omega), zz_sub u3]
    by_cases c : r_pcs e w T J ≤ n1
    · rw [if_pos (nI_le c (by omega)), if_pos c]
    · have k4 := u4 (by omega)
      have k5 := hbe n1 (by omega)
      rw [if_neg (nI_ge (by omega) (by omega)), if_neg c, if_neg (by omega), w_beg_n h6 h8 h9 n1 (by omega), zz_sub k4, h_imin (by omega) (by omega)]
  obtain ⟨n2, hn2⟩ : ∃ n2, n2 = h_enb e w T J b := ⟨_, rfl⟩
  have e3 : w_enb Z (nI b) = nI n2 := by
    rw [hn2]
    unfold w_enb h_enb
    rw [h6, h7, h8, h9, h10]
    by_cases c : b < e
    · rw [if_pos (nI_lt c (by omega)), if_pos c]
      by_cases c2 : w ≤ b
      · rw [if_pos (nI_le c2 (by omega)), if_pos c2, zz_sub c2, nI_add]
        unfold i_quo
        rw [if_neg (nI_ne0 (by omega) (by omega)), zz_div (by omega) (by omega), show (1 : Int32) = nI 1 from rfl, nI_add]
      · rw [if_neg (nI_ge (by omega) (by omega)), if_neg c2]
        rfl
    · rw [if_neg (nI_nlt (by omega) (by omega)), if_neg c]
  have v3 : 1 ≤ n2 → r_beg w T J (n2 - 1) + r_wid e w T J (n2 - 1) ≤ b := fun q => (h_enb_iff hT he (by omega)).mpr (by omega)
  have v4 : n2 < r_pcs e w T J → b ≤ r_beg w T J n2 + r_wid e w T J n2 := by
    intro q
    have g := h_enb_iff (a := b) hT he q
    omega
  have eE : w_ge Z (nI n2) (nI b) = nI (h_nr (fun k => r_beg w T J k + r_wid e w T J k) (r_pcs e w T J) n2 b) := by
    have wend : ∀ k : Nat, k < r_pcs e w T J → w_end Z (nI k) = nI (r_beg w T J k + r_wid e w T J k) := fun k hk => by
      rw [w_end_n h6 h7 h8 h9 (by omega) b4 b5 (by omega) k (by omega), h_end hT he hk]
    unfold w_ge h_nr
    rw [h10]
    by_cases c : r_pcs e w T J ≤ n2
    · rw [if_pos (nI_le c (by omega)), if_pos c, if_neg (nI_nle (by omega) (by omega)), show nI n2 - 1 = nI (n2 - 1) from zz_sub (b := 1) (by omega), wend _ (by omega), zz_sub (v3 (by omega))]
    · have k4 := v4 (by omega)
      have k5 := hen n2 (by omega)
      rw [if_neg (nI_ge (by omega) (by omega)), if_neg c, wend n2 (by omega), zz_sub k4]
      by_cases c0 : n2 = 0
      · rw [if_pos c0, c0, if_pos (show nI 0 ≤ 0 by decide), show (1000000 : Int32) = nI 1000000 from rfl]
        rw [c0] at k4 k5
        rw [h_imin (by omega) (by omega), show min 1000000 (r_beg w T J 0 + r_wid e w T J 0 - b) = r_beg w T J 0 + r_wid e w T J 0 - b by omega]
      · rw [if_neg c0, if_neg (nI_nle (by omega) (by omega)), show nI n2 - 1 = nI (n2 - 1) from zz_sub (b := 1) (by omega), wend _ (by omega), zz_sub (v3 (by omega)), h_imin (by omega) (by omega)]
  obtain ⟨p1, j1, q1, q2⟩ := h_near (s := r_beg w T J) (x := a) hP1 (fun j k hjk _ => h_beg_mono w T J k hjk) (by omega) (fun _ => u3) u4
  obtain ⟨p2, j2, q3, q4⟩ := h_near (s := fun k => r_beg w T J k + r_wid e w T J k) (x := b) hP1 (fun j k hjk hk => h_end_mono hT he hjk hk) (show n2 ≤ r_pcs e w T J by omega) v3 v4
  have small1 : ∀ k : Nat, k < r_pcs e w T J → h_ap (r_beg w T J k) a < 100000 := fun k hk => by
    have := hbe k hk
    unfold h_ap
    split <;> omega
  have small2 : ∀ k : Nat, k < r_pcs e w T J → h_ap (r_beg w T J k + r_wid e w T J k) b < 100000 := fun k hk => by
    have := hen k hk
    unfold h_ap
    split <;> omega
  have l1 := p1 0 (by omega)
  have l2 := p2 0 (by omega)
  have s1 := small1 0 (by omega)
  have s2 := small2 0 (by omega)
  rw [e1, e2, eG, e3, eE, h_imin (by omega) (by omega)]
  unfold r_ga
  rw [show r_A w T J 0 = nI (r_beg w T J 0) from rfl, s_ap_n (x := r_beg w T J 0) (y := a) (by have := hbe 0 (by omega); omega) (by omega)]
  rw [zz_gp_n (P := r_pcs e w T J) (d1 := fun k => h_ap (r_beg w T J k) a) (d2 := fun k => h_ap (r_beg w T J k + r_wid e w T J k) b) (fun k hk => ?_) (r_pcs e w T J) 0 (h_ap (r_beg w T J 0) a) (by omega) s1]
  · refine congrArg nI (h_fold_min _ _ _ (fun j _ hj => ?_) ?_ ?_).symm
    · have k1 := p1 j (by omega)
      have k2 := p2 j (by omega)
      omega
    · omega
    · by_cases c : h_nr (r_beg w T J) (r_pcs e w T J) n1 a ≤ h_nr (fun k => r_beg w T J k + r_wid e w T J k) (r_pcs e w T J) n2 b
      · exact Or.inr ⟨j1, Nat.zero_le _, by omega, Or.inl (by omega)⟩
      · exact Or.inr ⟨j2, Nat.zero_le _, by omega, Or.inr (by omega)⟩
  · have k1 := hbe k hk
    have k2 := hen k hk
    exact ⟨⟨s_ap_n (x := r_beg w T J k) (by omega) (by omega), small1 k hk⟩, by rw [h_AB]; exact s_ap_n (by omega) (by omega), small2 k hk⟩
theorem h_look {Z : Nat → Int32} {e w T J a b : Nat} (h : rw_ok Z e w T J) (ha : a ≤ 4000) (hab : a < b) (hb : b ≤ 4999) : s_look Z (nI a) (nI b) 11 = r_jo (r_A w T J) (r_B e w T J) (r_pcs e w T J) (nI a) (nI b) ∧ s_look Z (nI a) (nI b) 12 = r_ga (r_A w T J) (r_B e w T J) (r_pcs e w T J) (nI a) (nI b) ∧ s_look Z (nI a) (nI b) 13 = r_to (r_A w T J) (r_B e w T J) (r_pcs e w T J) (nI a) (nI b) ∧ s_look Z (nI a) (nI b) 14 = r_hi (nI T) (r_A w T J) (r_B e w T J) (r_pcs e w T J) (nI a) (nI b) := by
  obtain ⟨⟨h6, h7, h8, h9, h10⟩, b1, b2, b3, b4, b5, b6, b7⟩ := id h
  have hT : 0 < T := by omega
  have he : 0 < e := by omega
  have hP := r_pcs_le (w := w) (J := J) b3 b7
  have hP1 := r_pcs_pos e w T J
  have beh : ∀ x : Nat, x ≤ 5100 → i_min (Z 10 - 1) (w_beh Z (nI x)) = nI (min (r_pcs e w T J - 1) (r_beh w T J x)) := fun x hx => by
    have hx2 : r_beh w T J x ≤ 5101 := by
      unfold r_beh
      split
      · omega
      · have := Nat.div_le_self (x - w - J - 1) (T + J)
        omega
    rw [rw_last h, w_beh_n h6 h8 h9 (by omega) b3 b4 b5 (by omega), h_imin (by omega) (by omega)]
  refine ⟨?_, ?_, ?_, ?_⟩
  · show i_min (Z 10 - 1) (w_beh Z ((nI b + Z 9) + 1)) - i_min (Z 10 - 1) (w_beh Z (nI a)) = _
    have mono : r_beh w T J a ≤ r_beh w T J (b + J + 1) := by
      rcases Nat.eq_zero_or_pos (r_beh w T J a) with q | q
      · omega
      · have g := (r_beh_iff (w := w) (T := T) (J := J) (x := a) (k := r_beh w T J a - 1) hT).mp (by omega)
        have g2 := (r_beh_iff (w := w) (T := T) (J := J) (x := b + J + 1) (k := r_beh w T J a - 1) hT).mpr (by omega)
        omega
    rw [h9, nI_add, nI_1, beh _ (by omega), beh a (by omega), zz_sub (by omega), h_jo hT he (by omega) (by omega) (by omega)]
  · show i_min (w_gb Z (1 + i_min (Z 10 - 1) (w_beh Z (nI a))) (nI a)) (w_ge Z (w_enb Z (nI b)) (nI b)) = _
    exact h_ga h ha (by omega) hb
  · show (1 + i_min (Z 10 - 1) (w_beh Z (nI b))) - w_enb Z (nI a) = _
    have hE := h_enb_le (e := e) (w := w) (J := J) (a := a) hT
    have e3 : w_enb Z (nI a) = nI (h_enb e w T J a) := by
      unfold w_enb h_enb
      rw [h6, h7, h8, h9, h10]
      by_cases c : a < e
      · rw [if_pos (nI_lt c (by omega)), if_pos c]
        by_cases c2 : w ≤ a
        · rw [if_pos (nI_le c2 (by omega)), if_pos c2, zz_sub c2, nI_add]
          unfold i_quo
          rw [if_neg (nI_ne0 (by omega) (by omega)), zz_div (by omega) (by omega), show (1 : Int32) = nI 1 from rfl, nI_add]
        · rw [if_neg (nI_ge (by omega) (by omega)), if_neg c2]
          rfl
      · rw [if_neg (nI_nlt (by omega) (by omega)), if_neg c]
    have le : h_enb e w T J a ≤ 1 + min (r_pcs e w T J - 1) (r_beh w T J b) := by
      rcases Nat.eq_zero_or_pos (h_enb e w T J a) with q | q
      · omega
      · have g := (h_enb_iff (e := e) (w := w) (J := J) (a := a) (k := h_enb e w T J a - 1) hT he (by omega)).mpr (by omega)
        have g2 := (h_beg_b (w := w) (T := T) (J := J) (k := h_enb e w T J a - 1) (b := b) hT (by omega)).mp (by omega)
        omega
    rw [beh b (by omega), e3, show (1 : Int32) = nI 1 from rfl, nI_add, zz_sub le, h_to hT he (by omega) (by omega) (by omega) (by omega)]
    exact congrArg nI (by omega)
  · exact (h_hi h).symm
end
/-! part 66.w7.seen -/
section
/-! seen, buy, calm: equal answers (66.w7: by hand) -/
theorem s_mtold1_cg {f g : Nat → Int32} (h : ∀ j : Nat, 36 ≤ j → f j = g j) (a b c : Int32) : s_mtold1 (fun _ => f) a b c = s_mtold1 (fun _ => g) a b c := by
  have e1 : (fun k : Nat => f (162 + 2 * k)) = fun k => g (162 + 2 * k) := funext fun k => h _ (by omega)
  have e2 : (fun k : Nat => f (163 + 2 * k)) = fun k => g (163 + 2 * k) := funext fun k => h _ (by omega)
  have key : i_held (if 0 < f 161 then (r_evs (r_nm1 a b c) (fun k => f (162 + 2 * k)) (fun k => f (163 + 2 * k)) (f 161).toNatClampNeg 0 []).headD 0 else a) (-99) 99 = i_held (if 0 < g 161 then (r_evs (r_nm1 a b c) (fun k => g (162 + 2 * k)) (fun k => g (163 + 2 * k)) (g 161).toNatClampNeg 0 []).headD 0 else a) (-99) 99 := by
    rw [e1, e2, h 161 (by omega)]
  exact key
theorem e_max0 (v : Int32) : i_max 0 v = if 0 ≤ v then v else 0 := by
  unfold i_max
  by_cases c : 0 < v
  · rw [if_pos c, if_pos (Int32.le_of_lt c)]
  · rw [if_neg c]
    by_cases c1 : 0 ≤ v
    · rw [if_pos c1]
      apply Int32.toInt_inj.mp
      rw [Int32.lt_iff_toInt_lt] at c
      rw [Int32.le_iff_toInt_le] at c1
      omega
    · rw [if_neg c1]
theorem e_mhs (f A B : Nat → Int32) (P n : Nat) : s_mhs f A B P n = s_harms (r_jo A B P (f (12 + 4 * n + 2)) (f (12 + 4 * n + 2) + f (12 + 4 * n + 3))) (r_ga A B P (f (12 + 4 * n + 2)) (f (12 + 4 * n + 2) + f (12 + 4 * n + 3))) (r_to A B P (f (12 + 4 * n + 2)) (f (12 + 4 * n + 2) + f (12 + 4 * n + 3))) (r_hi (f 1) A B P (f (12 + 4 * n + 2)) (f (12 + 4 * n + 2) + f (12 + 4 * n + 3))) (f (12 + 4 * n + 0)) (f (12 + 4 * n + 1)) := by
  unfold s_mhs s_harms
  simp only [e_max0]
/-- what a THING sees of a laid row, and what it harms there -/
theorem RR.look {Z N Zm : Nat → Int32} {F G : Nat → Nat → Int32} (h : RR Z N F Zm G) {s : Nat} (h1 : 1 ≤ s) (h2 : s ≤ fT (G 0)) {r : Nat} (hr : r < 8) {n : Nat} (hn : n < (G 0 10).toNatClampNeg) (Z2 : Nat → Int32) :
    (s_look (c_lay Z2 F (nI r) (nI s)) (F 3 n) (F 3 n + F 4 n) 11 = r_jo (r_A (fw (upd (G 0) 6 (nI s)) r) (fT (G 0)) (fJ (G 0))) (r_B (fe (G 0) r) (fw (upd (G 0) 6 (nI s)) r) (fT (G 0)) (fJ (G 0))) (fP (upd (G 0) 6 (nI s)) r) (G 0 (12 + 4 * n + 2)) (G 0 (12 + 4 * n + 2) + G 0 (12 + 4 * n + 3)) ∧
    s_look (c_lay Z2 F (nI r) (nI s)) (F 3 n) (F 3 n + F 4 n) 12 = r_ga (r_A (fw (upd (G 0) 6 (nI s)) r) (fT (G 0)) (fJ (G 0))) (r_B (fe (G 0) r) (fw (upd (G 0) 6 (nI s)) r) (fT (G 0)) (fJ (G 0))) (fP (upd (G 0) 6 (nI s)) r) (G 0 (12 + 4 * n + 2)) (G 0 (12 + 4 * n + 2) + G 0 (12 + 4 * n + 3)) ∧
    s_look (c_lay Z2 F (nI r) (nI s)) (F 3 n) (F 3 n + F 4 n) 13 = r_to (r_A (fw (upd (G 0) 6 (nI s)) r) (fT (G 0)) (fJ (G 0))) (r_B (fe (G 0) r) (fw (upd (G 0) 6 (nI s)) r) (fT (G 0)) (fJ (G 0))) (fP (upd (G 0) 6 (nI s)) r) (G 0 (12 + 4 * n + 2)) (G 0 (12 + 4 * n + 2) + G 0 (12 + 4 * n + 3)) ∧
    s_look (c_lay Z2 F (nI r) (nI s)) (F 3 n) (F 3 n + F 4 n) 14 = r_hi (G 0 1) (r_A (fw (upd (G 0) 6 (nI s)) r) (fT (G 0)) (fJ (G 0))) (r_B (fe (G 0) r) (fw (upd (G 0) 6 (nI s)) r) (fT (G 0)) (fJ (G 0))) (fP (upd (G 0) 6 (nI s)) r) (G 0 (12 + 4 * n + 2)) (G 0 (12 + 4 * n + 2) + G 0 (12 + 4 * n + 3))) ∧
    s_hv (c_lay Z2 F (nI r) (nI s)) N F (nI n) = r_hv (upd (G 0) 6 (nI s)) (r_A (fw (upd (G 0) 6 (nI s)) r) (fT (G 0)) (fJ (G 0))) (r_B (fe (G 0) r) (fw (upd (G 0) 6 (nI s)) r) (fT (G 0)) (fJ (G 0))) (fP (upd (G 0) 6 (nI s)) r) n := by
  have hT := (g_TJR h.wall).1.1
  have hM := h.M
  have k1 : rw_ok (c_lay Z2 F (nI r) (nI s)) (fe (G 0) r) (fw (upd (G 0) 6 (nI s)) r) (fT (G 0)) (fJ (G 0)) := c_lay_ok (fun i hi => h.F0 hi) h.wall Z2 hr h1 h2
  obtain ⟨⟨⟨kd, d1, d2⟩, ⟨mk, d3, d4⟩, ⟨a, d5, d6⟩, ⟨wd, d7, d8, d9⟩⟩, t1, t2, t3, t4⟩ := h.th hn
  have L : s_look (c_lay Z2 F (nI r) (nI s)) (nI a) (nI (a + wd)) 11 = r_jo (r_A (fw (upd (G 0) 6 (nI s)) r) (fT (G 0)) (fJ (G 0))) (r_B (fe (G 0) r) (fw (upd (G 0) 6 (nI s)) r) (fT (G 0)) (fJ (G 0))) (fP (upd (G 0) 6 (nI s)) r) (nI a) (nI (a + wd)) ∧ s_look (c_lay Z2 F (nI r) (nI s)) (nI a) (nI (a + wd)) 12 = r_ga (r_A (fw (upd (G 0) 6 (nI s)) r) (fT (G 0)) (fJ (G 0))) (r_B (fe (G 0) r) (fw (upd (G 0) 6 (nI s)) r) (fT (G 0)) (fJ (G 0))) (fP (upd (G 0) 6 (nI s)) r) (nI a) (nI (a + wd)) ∧ s_look (c_lay Z2 F (nI r) (nI s)) (nI a) (nI (a + wd)) 13 = r_to (r_A (fw (upd (G 0) 6 (nI s)) r) (fT (G 0)) (fJ (G 0))) (r_B (fe (G 0) r) (fw (upd (G 0) 6 (nI s)) r) (fT (G 0)) (fJ (G 0))) (fP (upd (G 0) 6 (nI s)) r) (nI a) (nI (a + wd)) ∧ s_look (c_lay Z2 F (nI r) (nI s)) (nI a) (nI (a + wd)) 14 = r_hi (nI (fT (G 0))) (r_A (fw (upd (G 0) 6 (nI s)) r) (fT (G 0)) (fJ (G 0))) (r_B (fe (G 0) r) (fw (upd (G 0) 6 (nI s)) r) (fT (G 0)) (fJ (G 0))) (fP (upd (G 0) 6 (nI s)) r) (nI a) (nI (a + wd)) := h_look k1 d5 (by omega) (by omega)
  have f0 : ∀ i : Nat, i < 4 → upd (G 0) 6 (nI s) (12 + 4 * n + i) = G 0 (12 + 4 * n + i) := fun i hi => px_upd_ne _ _ (by omega)
  have e3 : F 3 n = nI a := t3.trans d6
  have e4 : F 4 n = nI wd := t4.trans d9
  have e34 : F 3 n + F 4 n = nI (a + wd) := by rw [e3, e4, nI_add]
  have g34 : G 0 (12 + 4 * n + 2) + G 0 (12 + 4 * n + 3) = nI (a + wd) := by rw [d6, d9, nI_add]
  refine ⟨?_, ?_⟩
  · rw [e34, e3, g34, d6, hT]
    exact L
  · unfold s_hv
    rw [nI_clamp (n := n) (by omega), e34, e3, L.1, L.2.1, L.2.2.1, L.2.2.2, h.ruled1]
    unfold r_hv s_mt1
    rw [e_mhs, f0 0 (by omega), f0 1 (by omega), f0 2 (by omega), f0 3 (by omega), g34, d6, show upd (G 0) 6 (nI s) 1 = nI (fT (G 0)) from (px_upd_ne _ _ (by omega)).trans hT, t1, t2]
    exact s_mtold1_cg (f := G 0) (g := upd (G 0) 6 (nI s)) (fun j hj => (px_upd_ne _ _ (by omega)).symm) _ _ _
theorem RR.hall {Z N Zm : Nat → Int32} {F G : Nat → Nat → Int32} (h : RR Z N F Zm G) {s : Nat} (h1 : 1 ≤ s) (h2 : s ≤ fT (G 0)) : ∀ (m k : Nat) (a : Int32), k + m ≤ 8 → s_hall N F (G 0 10).toNatClampNeg (nI s) m k a = r_hall (upd (G 0) 6 (nI s)) (fT (G 0)) (fJ (G 0)) (G 0 10).toNatClampNeg (fe (G 0)) (fw (upd (G 0) 6 (nI s))) (fP (upd (G 0) 6 (nI s))) m k a
  | 0, _, _, _ => rfl
  | m + 1, k, a, hk => by
    have e : s_hrow N F (G 0 10).toNatClampNeg (nI k) (nI s) a = r_hrow (upd (G 0) 6 (nI s)) (fT (G 0)) (fJ (G 0)) (G 0 10).toNatClampNeg (fe (G 0)) (fw (upd (G 0) 6 (nI s))) (fP (upd (G 0) 6 (nI s))) k a := by
      unfold s_hrow r_hrow
      exact c_fold_cg _ _ _ (fun j _ hj => (h.look h1 h2 (by omega) (show j < (G 0 10).toNatClampNeg by omega) (fun _ => 0)).2)
    show s_hall N F (G 0 10).toNatClampNeg (nI s) m (k + 1) (s_hrow N F (G 0 10).toNatClampNeg (nI k) (nI s) a) = _
    rw [e]
    exact RR.hall h h1 h2 m (k + 1) _ (by omega)
theorem st_seenT (thing row what : Int32) : px_st 63 170 [.int thing, .int row, .int what] True := by
  intro Z N F Zm G h
  have hM := h.M
  refine px_st_of (kc_seen h.1 h.hT thing row what) (by decide) (kc_mseen (g_ok h.wall) h.M.1 h.M.2.1 h.tx1 thing row what) (by decide) h (fun _ => ?_)
  obtain ⟨⟨hT, hT1, hT2⟩, hJ, hR, hR1, hR8⟩ := g_TJR h.wall
  unfold s_seen s_mseen
  have e1 : N 1 = G 0 10 := h.2.2.1.2.2.2.1.1
  have e4 : F 0 4 = G 0 4 := h.F0 (by omega)
  have hq := zz_rowq (t := thing) hM.1 (by omega)
  have hq2 := zz_rowq (t := row) hR (by omega)
  rw [e1, e4]
  by_cases c : thing < 0 ∨ G 0 10 ≤ thing
  · rw [if_pos c, if_neg (fun q => hq.mpr q c)]
  · rw [if_neg c, if_pos (hq.mp c)]
    by_cases c2 : row < 0 ∨ G 0 4 ≤ row
    · rw [if_pos c2, if_neg (fun q => hq2.mpr q c2)]
    · rw [if_neg c2, if_pos (hq2.mp c2)]
      obtain ⟨n, hn, rfl⟩ := zz_rown hM.1 (by omega) c
      obtain ⟨r, hr, rfl⟩ := zz_rown hR (by omega) c2
      obtain ⟨S, q1, q2, q3, q4, q5⟩ := h.S
      have K := h.look q1 q2 (show r < 8 by omega) hn Z
      rw [q5] at K
      rw [nI_clamp (n := n) (by omega), nI_clamp (n := r) (by omega), q4]
      by_cases c3 : 0 ≤ what ∧ what ≤ 4
      · rw [if_pos c3]
        by_cases w0 : what = 0
        · rw [if_pos w0, if_pos w0]; exact K.1.1
        by_cases w1 : what = 1
        · rw [if_neg w0, if_neg w0, if_pos w1, if_pos w1]; exact K.1.2.1
        by_cases w2 : what = 2
        · rw [if_neg w0, if_neg w0, if_neg w1, if_neg w1, if_pos w2, if_pos w2]; exact K.1.2.2.1
        by_cases w3 : what = 3
        · rw [if_neg w0, if_neg w0, if_neg w1, if_neg w1, if_neg w2, if_neg w2, if_pos w3, if_pos w3]; exact K.1.2.2.2
        have w4 : what = 4 := by
          obtain ⟨e, hl⟩ := px_in5 (n := 4) (by decide) c3
          rcases (show what.toNatClampNeg = 0 ∨ what.toNatClampNeg = 1 ∨ what.toNatClampNeg = 2 ∨ what.toNatClampNeg = 3 ∨ what.toNatClampNeg = 4 by omega) with z | z | z | z | z
          · exact absurd (by rw [e, z]; rfl) w0
          · exact absurd (by rw [e, z]; rfl) w1
          · exact absurd (by rw [e, z]; rfl) w2
          · exact absurd (by rw [e, z]; rfl) w3
          · rw [e, z]; rfl
        rw [if_neg w0, if_neg w0, if_neg w1, if_neg w1, if_neg w2, if_neg w2, if_neg w3, if_neg w3, if_pos w4]
        exact K.2
      · rw [if_neg c3]
        have ne : ∀ k : Nat, k ≤ 4 → ¬ (what = nI k) := fun k hk q => c3 (by rw [q]; exact ⟨nI_pos' (by omega), nI_le (b := 4) hk (by omega)⟩)
        rw [if_neg (show ¬ (what = 0) from ne 0 (by omega)), if_neg (show ¬ (what = 1) from ne 1 (by omega)), if_neg (show ¬ (what = 2) from ne 2 (by omega)), if_neg (show ¬ (what = 3) from ne 3 (by omega)), if_neg (show ¬ (what = 4) from ne 4 (by omega))]
theorem RR.halv {Z N Zm : Nat → Int32} {F G : Nat → Nat → Int32} (h : RR Z N F Zm G) : c_halves F (fR (G 0)) = r_all2 G (fT (G 0)) (fJ (G 0)) (fR (G 0)) (fe (G 0)) (fw (G 0)) (fP (G 0)) ∧ c_pcs F (fR (G 0)) = r_all3 G (fT (G 0)) (fJ (G 0)) (fR (G 0)) (fe (G 0)) (fw (G 0)) (fP (G 0)) ∧ c_cuts F (fR (G 0)) (F 0 6) = r_all0 G (fT (G 0)) (fJ (G 0)) (fR (G 0)) (fe (G 0)) (fw (G 0)) (fP (G 0)) ∧ c_nar F (fR (G 0)) (F 0 6) = r_all1 G (fT (G 0)) (fJ (G 0)) (fR (G 0)) (fe (G 0)) (fw (G 0)) (fP (G 0)) := by
  obtain ⟨⟨hT, hT1, hT2⟩, hJ, hR, hR1, hR8⟩ := g_TJR h.wall
  obtain ⟨S, q1, q2, q3, q4, q5⟩ := h.S
  refine ⟨?_, ?_, ?_, ?_⟩
  · unfold c_halves r_all2
    refine c_fold_cg _ _ _ (fun j _ hj => ?_)
    have k := h.lay (fun _ => 0) (r := j) (by omega)
    rw [hT]
    exact w_halves_n k
  · unfold c_pcs r_all3
    refine c_fold_cg _ _ _ (fun j _ hj => ?_)
    have k := h.lay (fun _ => 0) (r := j) (by omega)
    exact k.1.2.2.2.2
  · have k := h.cutS q1 q2
    rw [q4, k]
    unfold r_cutS r_all0
    dsimp only
    rw [q5]
  · have k := h.narS q1 q2
    rw [q4, k]
    unfold r_narS r_all1
    dsimp only
    rw [q5]
theorem st_buyT (what : Int32) : px_st 64 172 [.int what] True := by
  intro Z N F Zm G h
  obtain ⟨hT, hJ, hR, hR1, hR8⟩ := g_TJR h.wall
  refine px_st_of (kc_buy h.1 h.hT h.M.2.2.1 h.M.2.1 ((h.F0 (by decide)).trans hR) hR8 what) (by decide) (kc_mbuy (g_ok h.wall) h.M.1 h.M.2.1 h.tx1 h.tx0 what) (by decide) h (fun _ => ?_)
  obtain ⟨S, q1, q2, q3, q4, q5⟩ := h.S
  obtain ⟨k2, k3, k0, k1⟩ := h.halv
  have et : s_tiles (fR (G 0)) N F = s_mtiles G (fT (G 0)) (fJ (G 0)) (fR (G 0)) (fe (G 0)) (fw (G 0)) (fP (G 0)) := by
    unfold s_tiles s_mtiles
    rw [k0, k2, k3, h.ruled0, show F 0 1 = G 0 1 from h.F0 (by omega)]
    rfl
  have eh := h.hall q1 q2 (fR (G 0)) 0 0 (by omega)
  rw [q5, ← q4] at eh
  unfold s_buy s_mbuy
  rw [et, k0, k1, k2, eh]
  have e40 : ∀ x : Int32, i_quo x 40 = x / 40 := fun x => if_neg (by decide)
  rw [e40]
theorem s_calm_m {h1 h2 : Nat → Int32} : ∀ (m k : Nat) (a : Nat × Int32), 1 ≤ a.1 → 1 ≤ k → (∀ j : Nat, k ≤ j → j < k + m → h1 j = h2 j) → s_calm h1 m k a = s_mcalm h2 m k a
  | 0, _, _, _, _, _ => rfl
  | m + 1, k, a, ha, hk, he => by
    show s_calm h1 m (k + 1) (if h1 k < a.2 then (k, h1 k) else a) = s_mcalm h2 m (k + 1) (if a.1 = 0 then (k, h2 k) else if a.2 ≤ h2 k then a else (k, h2 k))
    rw [he k (Nat.le_refl k) (by omega), if_neg (show ¬ (a.1 = 0) by omega)]
    have e : (if h2 k < a.2 then (k, h2 k) else a) = (if a.2 ≤ h2 k then a else (k, h2 k)) := by
      by_cases c : h2 k < a.2
      · rw [if_pos c, if_neg (Int32.not_le.mpr c)]
      · rw [if_neg c, if_pos (Int32.not_lt.mp c)]
    rw [e]
    refine s_calm_m m (k + 1) _ ?_ (by omega) (fun j a b => he j (by omega) (by omega))
    split
    · exact ha
    · exact hk
theorem st_calmT (what : Int32) : px_st 68 177 [.int what] True := by
  intro Z N F Zm G h
  obtain ⟨⟨hT, hT1, hT2⟩, hJ, hR, hR1, hR8⟩ := g_TJR h.wall
  refine px_st_of (kc_calm h.1 h.hT h.M.2.2.1 h.M.2.1 ((h.F0 (by decide)).trans hR) hR8 ((h.F0 (by decide)).trans hT) hT2 (by omega) what) (by decide) (kc_mcalm hT hT2 (g_okS h.wall) h.M.1 h.M.2.1 h.tx1 what) (by decide) h (fun _ => ?_)
  have eh : ∀ j : Nat, 1 ≤ j → j ≤ fT (G 0) → s_hall N F (G 0 10).toNatClampNeg (nI j) (fR (G 0)) 0 0 = r_hS (G 0) (fT (G 0)) (fJ (G 0)) (fR (G 0)) (G 0 10).toNatClampNeg (fe (G 0)) (fun s => fw (upd (G 0) 6 (nI s))) (fun s => fP (upd (G 0) 6 (nI s))) j := fun j j1 j2 => h.hall j1 j2 (fR (G 0)) 0 0 (by omega)
  obtain ⟨t, ht⟩ : ∃ t, fT (G 0) = t + 1 := ⟨fT (G 0) - 1, by omega⟩
  have e1 := eh 1 (by omega) (by omega)
  have key : s_calm (fun s => s_hall N F (G 0 10).toNatClampNeg (nI s) (fR (G 0)) 0 0) (fT (G 0) - 1) 2 (1, s_hall N F (G 0 10).toNatClampNeg 1 (fR (G 0)) 0 0) = s_mcalm (r_hS (G 0) (fT (G 0)) (fJ (G 0)) (fR (G 0)) (G 0 10).toNatClampNeg (fe (G 0)) (fun s => fw (upd (G 0) 6 (nI s))) (fun s => fP (upd (G 0) 6 (nI s)))) (fT (G 0)) 1 (0, 0) := by
    rw [show s_hall N F (G 0 10).toNatClampNeg 1 (fR (G 0)) 0 0 = s_hall N F (G 0 10).toNatClampNeg (nI 1) (fR (G 0)) 0 0 from rfl, e1]
    generalize hg : r_hS (G 0) (fT (G 0)) (fJ (G 0)) (fR (G 0)) (G 0 10).toNatClampNeg (fe (G 0)) (fun s => fw (upd (G 0) 6 (nI s))) (fun s => fP (upd (G 0) 6 (nI s))) = g at eh ⊢
    have e2 : s_mcalm g (fT (G 0)) 1 (0, 0) = s_mcalm g (fT (G 0) - 1) 2 (1, g 1) := by
      rw [ht]
      rfl
    rw [e2]
    exact s_calm_m _ 2 (1, g 1) (Nat.le_refl 1) (by omega) (fun j j1 j2 => eh j (by omega) (by omega))
  unfold s_calmv s_mcalmv
  rw [key, zz_01]
end
/-! part 67.lawfr -/
section
theorem frT_node {k : Nat} {a b : Nat → Option px_A} (ha : px_frT a) (hb : px_frT b) : px_frT (px_node k a b) := by
  intro pc act h
  unfold px_node at h
  cases hc : Nat.blt pc k with
  | true => rw [hc] at h; exact ha pc act h
  | false => rw [hc] at h; exact hb pc act h
theorem frT_leaf {k : Nat} {a : px_A} (hf : px_fr a) : px_frT (px_leaf k a) := by
  intro pc act h
  unfold px_leaf at h
  cases hc : Nat.beq pc k with
  | true => rw [hc] at h; cases h; exact hf
  | false => rw [hc] at h; cases h
theorem fr_siald {L : Nat} {xs : Nat → Int32} : px_fr (px_siald L xs) := by
  intro b X cb cb' _ pc lv st h r hi hr
  unfold px_siald at hr ⊢
  split at hr
  · next i a r0 =>
    cases hb : (Nat.beq a 3004 && px_inb i L) with
    | true => simp only [hb, cond_true] at hr ⊢; cases hr; exact ⟨rfl, hi⟩
    | false => rw [hb] at hr; cases hr
  · cases hr
theorem fr_salen {L : Nat} : px_fr (px_salen L) := by
  intro b X cb cb' _ pc lv st h r hi hr
  unfold px_salen at hr ⊢
  split at hr
  · next a r0 =>
    cases hb : (Nat.beq a 3004) with
    | true => simp only [hb, cond_true] at hr ⊢; cases hr; exact ⟨rfl, hi⟩
    | false => rw [hb] at hr; cases hr
  · cases hr
theorem frL_0 (L : Nat) (xs : Nat → Int32) : px_frT (pcL_0 L xs) := by
  unfold pcL_0
  repeat' (first | refine frT_leaf ?_ | refine frT_node ?_ ?_)
  all_goals (first | exact fr_ald | exact fr_ild | exact fr_siald | exact fr_pushi | exact fr_bin | exact fr_callV | exact fr_zret | exact fr_icmp | exact fr_goto | exact fr_i2l | exact fr_pushl | exact fr_lbin | exact fr_lsh | exact fr_ist | exact fr_iinc | exact fr_salen | exact fr_tsw | exact fr_popi)
theorem frL_1 (L : Nat) (xs : Nat → Int32) : px_frT (pcL_1 L xs) := by
  unfold pcL_1
  repeat' (first | refine frT_leaf ?_ | refine frT_node ?_ ?_)
  all_goals (first | exact fr_ald | exact fr_ild | exact fr_siald | exact fr_pushi | exact fr_bin | exact fr_callV | exact fr_zret | exact fr_icmp | exact fr_goto | exact fr_i2l | exact fr_pushl | exact fr_lbin | exact fr_lsh | exact fr_ist | exact fr_iinc | exact fr_salen | exact fr_tsw | exact fr_popi)
theorem frL_2 (L : Nat) (xs : Nat → Int32) : px_frT (pcL_2 L xs) := by
  unfold pcL_2
  repeat' (first | refine frT_leaf ?_ | refine frT_node ?_ ?_)
  all_goals (first | exact fr_ald | exact fr_ild | exact fr_siald | exact fr_pushi | exact fr_bin | exact fr_callV | exact fr_zret | exact fr_icmp | exact fr_goto | exact fr_i2l | exact fr_pushl | exact fr_lbin | exact fr_lsh | exact fr_ist | exact fr_iinc | exact fr_salen | exact fr_tsw | exact fr_popi)
theorem frL_3 (L : Nat) (xs : Nat → Int32) : px_frT (pcL_3 L xs) := by
  unfold pcL_3
  repeat' (first | refine frT_leaf ?_ | refine frT_node ?_ ?_)
  all_goals (first | exact fr_ald | exact fr_ild | exact fr_siald | exact fr_pushi | exact fr_bin | exact fr_callV | exact fr_zret | exact fr_icmp | exact fr_goto | exact fr_i2l | exact fr_pushl | exact fr_lbin | exact fr_lsh | exact fr_ist | exact fr_iinc | exact fr_salen | exact fr_tsw | exact fr_popi)
theorem frL_4 (L : Nat) (xs : Nat → Int32) : px_frT (pcL_4 L xs) := by
  unfold pcL_4
  repeat' (first | refine frT_leaf ?_ | refine frT_node ?_ ?_)
  all_goals (first | exact fr_ald | exact fr_ild | exact fr_siald | exact fr_pushi | exact fr_bin | exact fr_callV | exact fr_zret | exact fr_icmp | exact fr_goto | exact fr_i2l | exact fr_pushl | exact fr_lbin | exact fr_lsh | exact fr_ist | exact fr_iinc | exact fr_salen | exact fr_tsw | exact fr_popi)
theorem frL_5 (L : Nat) (xs : Nat → Int32) : px_frT (pcL_5 L xs) := by
  unfold pcL_5
  repeat' (first | refine frT_leaf ?_ | refine frT_node ?_ ?_)
  all_goals (first | exact fr_ald | exact fr_ild | exact fr_siald | exact fr_pushi | exact fr_bin | exact fr_callV | exact fr_zret | exact fr_icmp | exact fr_goto | exact fr_i2l | exact fr_pushl | exact fr_lbin | exact fr_lsh | exact fr_ist | exact fr_iinc | exact fr_salen | exact fr_tsw | exact fr_popi)
theorem frL_6 (L : Nat) (xs : Nat → Int32) : px_frT (pcL_6 L xs) := by
  unfold pcL_6
  repeat' (first | refine frT_leaf ?_ | refine frT_node ?_ ?_)
  all_goals (first | exact fr_ald | exact fr_ild | exact fr_siald | exact fr_pushi | exact fr_bin | exact fr_callV | exact fr_zret | exact fr_icmp | exact fr_goto | exact fr_i2l | exact fr_pushl | exact fr_lbin | exact fr_lsh | exact fr_ist | exact fr_iinc | exact fr_salen | exact fr_tsw | exact fr_popi)
theorem frL_7 (L : Nat) (xs : Nat → Int32) : px_frT (pcL_7 L xs) := by
  unfold pcL_7
  repeat' (first | refine frT_leaf ?_ | refine frT_node ?_ ?_)
  all_goals (first | exact fr_ald | exact fr_ild | exact fr_siald | exact fr_pushi | exact fr_bin | exact fr_callV | exact fr_zret | exact fr_icmp | exact fr_goto | exact fr_i2l | exact fr_pushl | exact fr_lbin | exact fr_lsh | exact fr_ist | exact fr_iinc | exact fr_salen | exact fr_tsw | exact fr_popi)
theorem frL (L : Nat) (xs : Nat → Int32) : px_frT (pc_L L xs) := frT_node (frT_node (frT_node (frL_0 L xs) (frL_1 L xs)) (frT_node (frL_2 L xs) (frL_3 L xs))) (frT_node (frT_node (frL_4 L xs) (frL_5 L xs)) (frT_node (frL_6 L xs) (frL_7 L xs)))
end
/-! part 68.pair -/
section
/-- one call of both, beside each other: what either holds stays apart -/
theorem px_pair {jc jm : Nat} {as : List Value} {c : Prop} (hs : px_st jc jm as c) {Z N Zm : Nat → Int32} {F G : Nat → Nat → Int32} (h : RR Z N F Zm G) : ∃ (a b : Int32) (Z' N' : Nat → Int32) (F' : Nat → Nat → Int32) (Zm' : Nat → Int32) (G' : Nat → Nat → Int32), px_PM 50 jc (.ref 0 :: as) (px_CH Z N F, px_MH Zm G) (fun r h' => r = some (.int a) ∧ h' = (px_CH Z' N' F', px_MH Zm G)) ∧ px_PM 50 jm (.ref 1000 :: as) (px_CH Z' N' F', px_MH Zm G) (fun r h' => r = some (.int b) ∧ h' = (px_CH Z' N' F', px_MH Zm' G')) ∧ RR Z' N' F' Zm' G' ∧ (c → a = b) := by
  obtain ⟨a, b, Z', N', F', Zm', G', h1, h2, h3, h4⟩ := hs Z N F Zm G h
  refine ⟨a, b, Z', N', F', Zm', G', ?_, ?_, h3, h4⟩
  · have k1 := px_PM.left (Q := fun (r : Option Value) (C : List va_E) => r = some (.int a) ∧ C = px_CH Z' N' F') (px_MH Zm G) (h1.mono (Nat.le_refl _) (fun v h' q => ⟨q.1, congrArg Prod.fst q.2⟩))
    exact k1.mono (Nat.le_refl _) (fun v h' q => ⟨q.1.1, Prod.ext q.1.2 q.2⟩)
  · have k2 := px_PM.right (Q := fun (r : Option Value) (M : List va_E) => r = some (.int b) ∧ M = px_MH Zm' G') (px_CH Z' N' F') (h2.mono (Nat.le_refl _) (fun v h' q => ⟨q.1, congrArg Prod.snd q.2⟩))
    exact k2.mono (Nat.le_refl _) (fun v h' q => ⟨q.1.1, Prod.ext q.2 q.1.2⟩)
theorem px_inbB {n L : Nat} (h : n < L) (hL : L ≤ 100000) : px_inb (nI n) L = true := by
  unfold px_inb
  rw [nI_clamp (by omega), decide_eq_true (nI_pos' (n := n) (by omega))]
  exact Nat.blt_eq.mpr h
theorem nI_addB {a b : Nat} (h : a + b < 100000) : nI a + nI b = nI (a + b) := by
  apply Int32.toInt_inj.mp
  rw [zz_add (nI_toInt (n := a) (by omega)) (nI_toInt (n := b) (by omega)) (by omega) (by omega), nI_toInt (by omega)]
  omega
theorem px_PW.siald {d L : Nat} {xs : Nat → Int32} {code : Nat → Option px_A} (hT : px_frT code) {Q : Option Value → px_H → Prop} {pc n : Nat} {i : Int32} {lv : px_L} {r : List Value} {h : px_H} (hc : code pc = some (px_siald L xs)) (hi : i = nI n) (hn : n < L) (hL : L ≤ 100000) (k : px_PW d code Q (pc + 1) lv (.int (xs n) :: r) h) : px_PW d code Q pc lv (.int i :: .ref 3004 :: r) h := by
  subst hi
  refine px_PW.one hc (fun m => ?_) k hT
  have e : px_siald L xs (px_run px_codes d m) pc lv (.int (nI n) :: .ref 3004 :: r) h = cond (Nat.beq 3004 3004 && px_inb (nI n) L) (some (.inl (pc + 1, lv, .int (xs (nI n).toNatClampNeg) :: r, h))) none := rfl
  rw [e, px_inbB hn hL, nI_clamp (by omega)]
  rfl
end
