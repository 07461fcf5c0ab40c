/-! text: equal answers (66.w4: textrr.py) -/
theorem q_digB {P : Nat} {T : Nat → Int32} : ∀ (n a x : Nat), x < 10 ^ (4 - n) → n ≤ 4 → ∃ y : Nat, y < 10000 ∧ (m_dig P T n a (nI x)).1 = nI y
  | 0, a, x, hx, _ => ⟨x, by simpa using hx, rfl⟩
  | n + 1, a, x, hx, hn => by
    have h4 : 10 ^ (4 - n) = 10 * 10 ^ (4 - (n + 1)) := by
      rw [show 4 - n = (4 - (n + 1)) + 1 by omega, Nat.pow_succ, Nat.mul_comm]
    by_cases hd : m_dg (m_lk P T a)
    · rw [show m_dig P T (n + 1) a (nI x) = m_dig P T n (a + 1) (10 * nI x + m_lk P T a - 48) from if_pos hd]
      obtain ⟨k, hk, e⟩ := zz_rng (a := 48) (b := 57) (by omega) (by omega) (show nI 48 ≤ m_lk P T a from hd.1) (show m_lk P T a ≤ nI 57 from hd.2)
      rw [e.2, show (10 : Int32) * nI x = nI (10 * x) from zz_mul 10 x, nI_add, show nI (10 * x + k) - 48 = nI (10 * x + k - 48) from zz_sub (b := 48) (by omega)]
      exact q_digB n (a + 1) (10 * x + k - 48) (by omega) (by omega)
    · rw [show m_dig P T (n + 1) a (nI x) = (nI x, a) from if_neg hd]
      refine ⟨x, Nat.lt_of_lt_of_le hx ?_, rfl⟩
      exact Nat.pow_le_pow_right (n := 10) (by omega) (show 4 - (n + 1) ≤ 4 by omega)
theorem q_ok_C (P : Nat) (T : Nat → Int32) (u : Nat) : m_C P T u (fun _ _ _ l _ _ _ l' => q_ok l → q_ok l') := by
  refine ⟨?_, ?_, ?_, ?_, ?_, ?_, ?_, ?_, ?_, ?_, ?_, ?_, ?_, ?_, ?_, ?_, ?_, ?_, ?_⟩
  · intro L a o l a' o' l' hL h; exact h
  · intro L a o l a1 o1 l1 b a' o' l' hL h g; exact fun q => g (h q)
  · intro L a o l hL hs; exact id
  · intro L a o l a' o' l' hL hs h; exact h
  · intro L a o l a1 o1 l1 b a' o' l' hL hs h g q
    exact g (List.forall_mem_cons.mpr ⟨⟨(fun z => absurd (show (3 : Int32) = 0 from z) (by decide)), fun _ => Or.inr ⟨L, hs⟩⟩, h q⟩)
  · intro a o l a' o' l' h; exact h
  · intro a o l a1 o1 l1 h hc; exact h
  · intro a o l a1 o1 l1 a' o' l' h hc g; exact fun q => g (h q)
  · intro a o l a1 o1 l1 a2 o2 l2 h hc g q
    exact List.forall_mem_cons.mpr ⟨⟨(fun z => absurd (show (3 : Int32) = 0 from z) (by decide)), fun _ => Or.inl hc⟩, g (h q)⟩
  · intro a o l hn q
    exact List.forall_mem_cons.mpr ⟨⟨(fun z => absurd (show (1 : Int32) = 0 from z) (by decide)), (fun z => absurd (show (1 : Int32) = 3 from z) (by decide))⟩, q⟩
  · intro a o l hn hd q
    refine List.forall_mem_cons.mpr ⟨⟨fun _ => ?_, (fun z => absurd (show (0 : Int32) = 3 from z) (by decide))⟩, q⟩
    obtain ⟨y, y1, y2⟩ := q_digB (P := P) (T := T) 4 a 0 (by decide) (Nat.le_refl 4)
    show 0 ≤ (m_dig P T 4 a 0).1
    rw [show (m_dig P T 4 a 0).1 = nI y from y2]
    exact nI_pos' (by omega)
  · intro a o l a1 o1 l1 hc ho h q
    exact List.forall_mem_cons.mpr ⟨⟨(fun z => absurd (show (2 : Int32) = 0 from z) (by decide)), (fun z => absurd (show (2 : Int32) = 3 from z) (by decide))⟩, h q⟩
  · intro a o l a' o' l' hc ho h; exact h
  · intro a o l hc ho; exact id
  · intro a o l a1 o1 l1 hc ho h hk; exact h
  · intro a o l a1 o1 l1 hc ho h hk; exact h
  · intro a o l a' o' l' hc ho h; exact h
  · intro a o l hc ho; exact id
  · intro a o l h1 h2 h3 h4; exact id
theorem q_okR {P : Nat} {T : Nat → Int32} {u a' o' : Nat} {l' : m_L} {bb : Bool} (h : m_R P T u 0 0 0 [] bb a' o' l') : q_ok l' := (h _ (q_ok_C P T u)) (fun s hs => by cases hs)
/-- a TEXT just read stands in both -/
theorem g_tuN {u b q : Nat} {N : Nat → Int32} {F : Nat → Nat → Int32} {s f g : Nat → Int32} {l : m_L} {cs : List Int32} (hl : l.length ≤ 60) (hk : N q = nI cs.length ∧ zz_st (F q) cs) (hc : cs = l.map (q_enc u)) (hs : s = zz_pl g (upd f b (nI l.length)) (b + 1) (2 * l.length)) (hg : m_st g l) (he : m_ef (m_nm u) l 0 1) (ho : q_ok l) : g_tu u b q N F s := by
  subst hc hs
  rw [List.length_map] at hk
  refine ⟨l, hl, hk.1, ?_, hk.2, m_st_cg l (fun j hj => ?_) hg, Or.inr he, ho⟩
  · unfold zz_pl
    rw [if_neg (by omega), px_upd_self]
  · unfold zz_pl
    rw [if_pos (by omega), show b + 1 + j - (b + 1) = j by omega]
theorem st_text0 : px_st 58 137 [.int 0] True := by
  intro Z N F Zm G h
  obtain ⟨-, -, ⟨-, -, ⟨a3, -⟩, -, -, a10, -⟩, -⟩ := id h
  obtain ⟨-, ⟨P, hP, hG8⟩, -⟩ := id h.2.1
  have hN5 : N 5 = nI P := a3.trans hG8
  have hT : ∀ j : Nat, j < P → F 5 j = G 0 (286 + j) := fun j hj => a10 j (by rw [hG8, nI_clamp (by omega)]; exact hj)
  refine px_st_ex (kc_text0 (T := fun j => G 0 (286 + j)) h.1 hP hN5 hT) (by decide) (kc_mtext0 (T := fun j => G 0 (286 + j)) hP hG8 (fun _ _ => rfl)) (by decide) (fun v h' v2 h2 q1 q2 => ?_)
  obtain ⟨x, hx, rfl, Z', N', F', rfl, k1, k2, k3, k4, k5, k6, k7⟩ := q1
  obtain ⟨bb, a', o', l', R', rfl, Zm', G', rfl, m1, m2, m3, m4⟩ := q2
  refine ⟨_, _, _, _, _, _, _, ⟨rfl, rfl⟩, ⟨rfl, rfl⟩, ?_, fun _ => ?_⟩
  rotate_left
  · subst hx
    have haP : a' ≤ P := R'.S.2.1 (Nat.zero_le P)
    have hq := (q_text (u := 0) (by omega) hP (fun i hi => h.tt.1 i (by rw [hG8, nI_clamp (by omega)]; exact hi)) R').1
    by_cases gd : bb = true ∧ a' = P
    · rw [if_pos gd] at hq
      rw [hq, if_pos rfl, if_pos gd]
    · rw [if_neg gd] at hq
      rw [hq, if_neg gd, if_neg (fun q => absurd (nI_pos' (n := a') (by omega)) (by rw [q]; decide))]
  have hq := q_text (u := 0) (by omega) hP (fun i hi => h.tt.1 i (by rw [hG8, nI_clamp (by omega)]; exact hi)) R'
  rw [← hx] at hq
  have hb := h.tapeNo
  have ht : ∃ g : Nat → Int32, G' 0 = g ∧ (∀ j : Nat, j < 36 ∨ 286 ≤ j → g j = upd (G 0) 8 0 j) ∧ r_txf0 g ∧ r_txf1 g ∧ g_tt 0 N' F' g := by
    by_cases gd : bb = true ∧ a' = P
    · obtain ⟨g, hg, e⟩ := m4 gd
      obtain ⟨rfl, gd2⟩ := gd
      obtain ⟨f1, f2⟩ := R'.ef
      have hl : l'.length ≤ 60 := Nat.le_trans f2 (Nat.le_trans (R'.S.2.1 (Nat.zero_le P)) hP)
      have htx := m_tx (b := 36) hl hg (m_ef_mono m_nm_ok0 l' f1) e
      refine ⟨G' 0, rfl, fun j hj => ?_, ?_⟩
      · rw [e]
        unfold zz_pl
        rw [if_neg (by omega), px_upd_ne _ _ (by omega)]
      · have ho := zz_txb (b := 161) (ok := r_ok1) (f := upd (G 0) 8 0) (g := G' 0) (fun j h1 h2 => by
          rw [e]
          unfold zz_pl
          rw [if_neg (by omega), px_upd_ne _ _ (by omega)]) (hb.tx1)
        exact ⟨Or.inr htx, ho, ⟨fun i hi => absurd hi (by rw [e]; unfold zz_pl; rw [if_neg (by omega), px_upd_ne _ _ (by omega), px_upd_self]; exact Nat.not_lt_zero i), g_tuN (b := 36) hl (k7 (hq.1.trans (if_pos ⟨rfl, gd2⟩))) (hq.2 ⟨rfl, gd2⟩) e hg f1 (q_okR R'), (hb.tt.2.2).cg ((k4 7 (by omega)).trans (px_upd_ne _ _ (by omega)).symm) (fun j _ => congrFun (k5 7 (by omega)) j) (fun j h1 h2 => by rw [e]; unfold zz_pl; rw [if_neg (by omega), px_upd_ne _ _ (by omega)]; rfl)⟩⟩
    · have kk := k6 (fun q => by
        rw [hq.1, if_neg gd] at q
        have haP : a' ≤ P := R'.S.2.1 (Nat.zero_le P)
        exact absurd (nI_pos' (n := a') (by omega)) (by rw [q]; decide))
      refine ⟨upd (G 0) 8 0, m3 gd, fun _ _ => rfl, hb.tx0, hb.tx1, hb.tt.cg ⟨?_, ?_⟩ ⟨?_, ?_⟩ (fun _ _ => rfl)⟩
      · exact kk.1.trans (px_upd_ne _ _ (by omega)).symm
      · exact (k4 7 (by omega)).trans (px_upd_ne _ _ (by omega)).symm
      · exact kk.2
      · exact k5 7 (by omega)
  obtain ⟨g, eg, hg1, hg2, hg3, hg4⟩ := ht
  have hfin := hb.text (N' := fun j => if j = 23 ∨ j = 24 then upd N 5 0 j else N' j) (F' := fun j => if j = 23 ∨ j = 24 then F j else F' j) (g := g) (fun j hj => ?_) (fun j hj => ?_) ?_ (fun j hj => (hg1 j hj)) hg2 hg3 (hg4.cg ⟨rfl, rfl⟩ ⟨rfl, rfl⟩ (fun _ _ => rfl))
  · refine hfin.sc (Z' := Z') (N' := N') (F' := F') ⟨fun i hi => k1 i (by omega), fun q hq => (if_neg (by omega)).symm, fun q hq => (if_neg (by omega)).symm, fun _ => k2⟩ ?_
    refine ⟨m1 0 (by omega), fun hh => by rw [m1 6 (by omega)]; exact hh, ?_, ?_, ?_, ?_, ?_, ?_, ?_⟩
    · rw [px_up_self]; exact eg
    all_goals (rw [px_up_ne _ _ (by omega), px_up_ne _ _ (by omega)]; exact m2 _ (by omega))
  · by_cases c : j = 23 ∨ j = 24
    · exact if_pos c
    · refine (if_neg c).trans ?_
      by_cases c5 : j = 5
      · subst c5; rw [k3, px_upd_self]
      · rw [px_upd_ne _ _ c5]; exact k4 j (by omega)
  · by_cases c : j = 23 ∨ j = 24
    · exact if_pos c
    · exact (if_neg c).trans (k5 j (by omega))
  · obtain ⟨w0, w1, w2, w3⟩ := k2
    obtain ⟨v0, v1, v2, v3⟩ := hb.1
    refine ⟨(if_neg (by omega)).trans w0, (if_neg (by omega)).trans w1, (if_neg (by omega)).trans w2, fun j hj => ?_⟩
    by_cases c : j = 23 ∨ j = 24
    · dsimp only
      rw [if_pos c]
      exact v3 j hj
    · dsimp only
      rw [if_neg c]
      exact w3 j hj
theorem st_text1 : px_st 58 137 [.int 1] True := by
  intro Z N F Zm G h
  obtain ⟨-, -, ⟨-, -, ⟨a3, -⟩, -, -, a10, -⟩, -⟩ := id h
  obtain ⟨-, ⟨P, hP, hG8⟩, -⟩ := id h.2.1
  have hN5 : N 5 = nI P := a3.trans hG8
  have hT : ∀ j : Nat, j < P → F 5 j = G 0 (286 + j) := fun j hj => a10 j (by rw [hG8, nI_clamp (by omega)]; exact hj)
  refine px_st_ex (kc_text1 (T := fun j => G 0 (286 + j)) h.1 hP hN5 hT) (by decide) (kc_mtext1 (T := fun j => G 0 (286 + j)) hP hG8 (fun _ _ => rfl)) (by decide) (fun v h' v2 h2 q1 q2 => ?_)
  obtain ⟨x, hx, rfl, Z', N', F', rfl, k1, k2, k3, k4, k5, k6, k7⟩ := q1
  obtain ⟨bb, a', o', l', R', rfl, Zm', G', rfl, m1, m2, m3, m4⟩ := q2
  refine ⟨_, _, _, _, _, _, _, ⟨rfl, rfl⟩, ⟨rfl, rfl⟩, ?_, fun _ => ?_⟩
  rotate_left
  · subst hx
    have haP : a' ≤ P := R'.S.2.1 (Nat.zero_le P)
    have hq := (q_text (u := 1) (by omega) hP (fun i hi => h.tt.1 i (by rw [hG8, nI_clamp (by omega)]; exact hi)) R').1
    by_cases gd : bb = true ∧ a' = P
    · rw [if_pos gd] at hq
      rw [hq, if_pos rfl, if_pos gd]
    · rw [if_neg gd] at hq
      rw [hq, if_neg gd, if_neg (fun q => absurd (nI_pos' (n := a') (by omega)) (by rw [q]; decide))]
  have hq := q_text (u := 1) (by omega) hP (fun i hi => h.tt.1 i (by rw [hG8, nI_clamp (by omega)]; exact hi)) R'
  rw [← hx] at hq
  have hb := h.tapeNo
  have ht : ∃ g : Nat → Int32, G' 0 = g ∧ (∀ j : Nat, j < 36 ∨ 286 ≤ j → g j = upd (G 0) 8 0 j) ∧ r_txf0 g ∧ r_txf1 g ∧ g_tt 0 N' F' g := by
    by_cases gd : bb = true ∧ a' = P
    · obtain ⟨g, hg, e⟩ := m4 gd
      obtain ⟨rfl, gd2⟩ := gd
      obtain ⟨f1, f2⟩ := R'.ef
      have hl : l'.length ≤ 60 := Nat.le_trans f2 (Nat.le_trans (R'.S.2.1 (Nat.zero_le P)) hP)
      have htx := m_tx (b := 161) hl hg (m_ef_mono m_nm_ok1 l' f1) e
      refine ⟨G' 0, rfl, fun j hj => ?_, ?_⟩
      · rw [e]
        unfold zz_pl
        rw [if_neg (by omega), px_upd_ne _ _ (by omega)]
      · have ho := zz_txb (b := 36) (ok := r_ok0) (f := upd (G 0) 8 0) (g := G' 0) (fun j h1 h2 => by
          rw [e]
          unfold zz_pl
          rw [if_neg (by omega), px_upd_ne _ _ (by omega)]) (hb.tx0)
        exact ⟨ho, Or.inr htx, ⟨fun i hi => absurd hi (by rw [e]; unfold zz_pl; rw [if_neg (by omega), px_upd_ne _ _ (by omega), px_upd_self]; exact Nat.not_lt_zero i), (hb.tt.2.1).cg ((k4 6 (by omega)).trans (px_upd_ne _ _ (by omega)).symm) (fun j _ => congrFun (k5 6 (by omega)) j) (fun j h1 h2 => by rw [e]; unfold zz_pl; rw [if_neg (by omega), px_upd_ne _ _ (by omega)]; rfl), g_tuN (b := 161) hl (k7 (hq.1.trans (if_pos ⟨rfl, gd2⟩))) (hq.2 ⟨rfl, gd2⟩) e hg f1 (q_okR R')⟩⟩
    · have kk := k6 (fun q => by
        rw [hq.1, if_neg gd] at q
        have haP : a' ≤ P := R'.S.2.1 (Nat.zero_le P)
        exact absurd (nI_pos' (n := a') (by omega)) (by rw [q]; decide))
      refine ⟨upd (G 0) 8 0, m3 gd, fun _ _ => rfl, hb.tx0, hb.tx1, hb.tt.cg ⟨?_, ?_⟩ ⟨?_, ?_⟩ (fun _ _ => rfl)⟩
      · exact (k4 6 (by omega)).trans (px_upd_ne _ _ (by omega)).symm
      · exact kk.1.trans (px_upd_ne _ _ (by omega)).symm
      · exact k5 6 (by omega)
      · exact kk.2
  obtain ⟨g, eg, hg1, hg2, hg3, hg4⟩ := ht
  have hfin := hb.text (N' := fun j => if j = 23 ∨ j = 24 then upd N 5 0 j else N' j) (F' := fun j => if j = 23 ∨ j = 24 then F j else F' j) (g := g) (fun j hj => ?_) (fun j hj => ?_) ?_ (fun j hj => (hg1 j hj)) hg2 hg3 (hg4.cg ⟨rfl, rfl⟩ ⟨rfl, rfl⟩ (fun _ _ => rfl))
  · refine hfin.sc (Z' := Z') (N' := N') (F' := F') ⟨fun i hi => k1 i (by omega), fun q hq => (if_neg (by omega)).symm, fun q hq => (if_neg (by omega)).symm, fun _ => k2⟩ ?_
    refine ⟨m1 0 (by omega), fun hh => by rw [m1 6 (by omega)]; exact hh, ?_, ?_, ?_, ?_, ?_, ?_, ?_⟩
    · rw [px_up_self]; exact eg
    all_goals (rw [px_up_ne _ _ (by omega), px_up_ne _ _ (by omega)]; exact m2 _ (by omega))
  · by_cases c : j = 23 ∨ j = 24
    · exact if_pos c
    · refine (if_neg c).trans ?_
      by_cases c5 : j = 5
      · subst c5; rw [k3, px_upd_self]
      · rw [px_upd_ne _ _ c5]; exact k4 j (by omega)
  · by_cases c : j = 23 ∨ j = 24
    · exact if_pos c
    · exact (if_neg c).trans (k5 j (by omega))
  · obtain ⟨w0, w1, w2, w3⟩ := k2
    obtain ⟨v0, v1, v2, v3⟩ := hb.1
    refine ⟨(if_neg (by omega)).trans w0, (if_neg (by omega)).trans w1, (if_neg (by omega)).trans w2, fun j hj => ?_⟩
    by_cases c : j = 23 ∨ j = 24
    · dsimp only
      rw [if_pos c]
      exact v3 j hj
    · dsimp only
      rw [if_neg c]
      exact w3 j hj
theorem st_textT (use : Int32) : px_st 58 137 [.int use] True := by
  by_cases c0 : use = 0
  · subst c0; exact st_text0
  by_cases c1 : use = 1
  · subst c1; exact st_text1
  intro Z N F Zm G h
  exact px_st_of (kc_textB h.1 use (fun q => q.elim c0 c1)) (by decide) (kc_mtextB use (fun q => q.elim c0 c1)) (by decide) h (fun _ => rfl)
