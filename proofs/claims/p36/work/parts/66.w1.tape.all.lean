/-! part 66.w1.tape -/
section
/-! the reference's text; both beside each other (66.t6: mtext3.py) -/
theorem m_cp_loop {Z : Nat → Int32} {F : Nat → Nat → Int32} {f : Nat → Int32} {L u b : Nat} {gv : Int32} {d : Nat} {Q : Option Value → px_H → Prop} (hL : L ≤ 60) (hZ : Z 3 = nI L) (hb : b ≤ 161) : ∀ (m k : Nat), k + m = 2 * L → px_PW d pc_137 Q 138 [some (.ref 1000), some (.int (nI u)), some (.int gv), some (.int (nI b)), some (.int (nI (2 * L)))] [] ([], px_MH Z (va_up F 0 (zz_pl (F 5) f (b + 1) (2 * L)))) → px_PW d pc_137 Q 103 [some (.ref 1000), some (.int (nI u)), some (.int gv), some (.int (nI b)), some (.int (nI k))] [] ([], px_MH Z (va_up F 0 (zz_pl (F 5) f (b + 1) k)))
  | m, k, hk, H => by
    refine px_PW.steps kt_137.2 5 rfl ?_
    dsimp only
    rw [hZ, show (2 : Int32) * nI L = nI (2 * L) from zz_mul 2 L]
    refine px_PW.steps kt_137.2 1 rfl ?_
    refine px_PW.br (fun c0 => ?_) (fun c0 => ?_)
    · have c0 : nI (2 * L) ≤ nI k := of_decide_eq_true c0
      have c1 := (nI_leI (a := 2 * L) (b := k) (by omega) (by omega)).mp c0
      obtain rfl : m = 0 := by omega
      obtain rfl : k = 2 * L := by omega
      exact H
    · have c0 : ¬ (nI (2 * L) ≤ nI k) := of_decide_eq_false c0
      have c1 : k < 2 * L := Nat.lt_of_not_le (fun q => c0 ((nI_leI (a := 2 * L) (b := k) (by omega) (by omega)).mpr q))
      obtain ⟨m2, rfl⟩ : ∃ m2, m = m2 + 1 := ⟨m - 1, by omega⟩
      refine px_PW.steps kt_137.2 10 rfl ?_
      refine px_PW.aldN kt_137.2 rfl rfl (n := k) rfl (by omega) ?_
      refine ms_0 kt_137.2 rfl (n := b + 1 + k) (show nI b + 1 + nI k = nI (b + 1 + k) by rw [nI_1, nI_add]) (by omega) ?_
      refine px_PW.steps kt_137.2 2 rfl ?_
      have g := m_cp_loop (Z := Z) (F := F) (f := f) (u := u) (gv := gv) (d := d) (Q := Q) hL hZ hb m2 (k + 1) (by omega) H
      rw [nI_succ k] at g
      have e : (va_up F 0 (zz_pl (F 5) f (b + 1) (k + 1))) = va_up (va_up F 0 (zz_pl (F 5) f (b + 1) k)) 0 (upd (va_up F 0 (zz_pl (F 5) f (b + 1) k) 0) (b + 1 + k) (F 5 k)) := by rw [px_up_up, px_up_self, zz_pl_s]
      rw [e] at g
      exact g
theorem kc_mtext0 {Z : Nat → Int32} {F : Nat → Nat → Int32} {P : Nat} {T : Nat → Int32} (hP : P ≤ 60) (hN : F 0 8 = nI P) (hT : ∀ j : Nat, j < P → F 0 (286 + j) = T j) : px_PM 39 137 [.ref 1000, .int 0] ([], px_MH Z F) (fun r h' => ∃ (bb : Bool) (a' o' : Nat) (l' : m_L), m_R P T 0 0 0 0 [] bb a' o' l' ∧ r = some (.int (if bb = true ∧ a' = P then 1 else -10 - nI a')) ∧ ∃ (Z' : Nat → Int32) (F' : Nat → Nat → Int32), h' = ([], px_MH Z' F') ∧ (∀ i : Nat, ¬ (1 ≤ i ∧ i ≤ 4) → Z' i = Z i) ∧ (∀ q : Nat, ¬ (q = 0 ∨ q = 5) → F' q = F q) ∧ (¬ (bb = true ∧ a' = P) → F' 0 = upd (F 0) 8 0) ∧ ((bb = true ∧ a' = P) → ∃ g : Nat → Int32, m_st g l' ∧ F' 0 = zz_pl g (upd (upd (F 0) 8 0) 36 (nI l'.length)) 37 (2 * l'.length))) := by
  refine px_PM.start (nL := 5) (code := pc_137) rfl rfl ?_
  refine px_PW.steps kt_137.2 3 rfl ?_
  refine px_PW.callS kt_137.2 rfl rfl rfl (cm_117 _ _ _ _) (by decide) (fun v h1 q => ?_)
  obtain ⟨rfl, rfl⟩ := q
  rw [if_pos (by decide)]
  refine px_PW.steps kt_137.2 1 rfl ?_
  refine px_PW.br (fun _ => ?_) (fun c0 => absurd c0 (by decide))
  refine px_PW.steps kt_137.2 2 rfl ?_
  refine mo_4 kt_137.2 rfl ?_
  refine px_PW.steps kt_137.2 2 rfl ?_
  refine mo_1 kt_137.2 rfl ?_
  refine px_PW.steps kt_137.2 2 rfl ?_
  refine mo_2 kt_137.2 rfl ?_
  refine px_PW.steps kt_137.2 2 rfl ?_
  refine mo_3 kt_137.2 rfl ?_
  refine px_PW.steps kt_137.2 1 rfl ?_
  have hr0 : m_rep P T 0 (upd (upd (upd (upd Z 4 0) 1 0) 2 0) 3 0) F 0 0 [] := ⟨⟨hN, hP, hT⟩, ⟨Nat.zero_le _, by omega, Nat.le_refl 0, by omega⟩, by rw [px_upd_ne _ _ (by omega), px_upd_ne _ _ (by omega), px_upd_self]; rfl, by rw [px_upd_ne _ _ (by omega), px_upd_self]; rfl, px_upd_self _ _ _, by rw [px_upd_ne _ _ (by omega), px_upd_ne _ _ (by omega), px_upd_ne _ _ (by omega), px_upd_self]; rfl, trivial⟩
  refine px_PW.callV kt_137.2 rfl rfl rfl rfl (mk_whole hr0) (Nat.le_refl 38) (fun v h1 q => ?_)
  obtain ⟨bb, a1, o1, l1, Z1, F1, rfl, rfl, R1, r1, s1⟩ := q
  have hZs : ∀ i : Nat, ¬ (1 ≤ i ∧ i ≤ 4) → Z1 i = Z i := fun i hi => by rw [s1.1 i (by omega), px_upd_ne _ _ (by omega), px_upd_ne _ _ (by omega), px_upd_ne _ _ (by omega), px_upd_ne _ _ (by omega)]
  have hF0 : F1 0 = F 0 := s1.2 0 (by omega)
  have hF8 : F1 0 8 = nI P := by rw [hF0]; exact hN
  have h1 : Z1 1 = nI a1 := r1.2.2.1
  have h3 : Z1 3 = nI l1.length := r1.2.2.2.2.1
  have hl60 : l1.length ≤ 60 := Nat.le_trans r1.2.1.2.2.1 (Nat.le_trans r1.2.1.1 hP)
  have ha60 : a1 ≤ 60 := Nat.le_trans r1.2.1.1 hP
  have bad : ∀ (gd : ¬ (bb = true ∧ a1 = P)), px_PW 38 pc_137 (fun r h' => ∃ (bb : Bool) (a' o' : Nat) (l' : m_L), m_R P T 0 0 0 0 [] bb a' o' l' ∧ r = some (.int (if bb = true ∧ a' = P then 1 else -10 - nI a')) ∧ ∃ (Z' : Nat → Int32) (F' : Nat → Nat → Int32), h' = ([], px_MH Z' F') ∧ (∀ i : Nat, ¬ (1 ≤ i ∧ i ≤ 4) → Z' i = Z i) ∧ (∀ q : Nat, ¬ (q = 0 ∨ q = 5) → F' q = F q) ∧ (¬ (bb = true ∧ a' = P) → F' 0 = upd (F 0) 8 0) ∧ ((bb = true ∧ a' = P) → ∃ g : Nat → Int32, m_st g l' ∧ F' 0 = zz_pl g (upd (upd (F 0) 8 0) 36 (nI l'.length)) 37 (2 * l'.length))) 60 [some (.ref 1000), some (.int 0), none, none, none] [] ([], px_MH Z1 F1) := by
    intro gd
    refine px_PW.steps kt_137.2 6 rfl ?_
    refine ms_0 kt_137.2 rfl (n := 8) rfl (by omega) ?_
    refine px_PW.steps kt_137.2 2 rfl ?_
    refine px_PW.br (fun c0 => absurd c0 (by decide)) (fun _ => ?_)
    refine px_PW.steps kt_137.2 4 rfl ?_
    refine px_PW.ret kt_137.2 rfl rfl ?_
    exact ⟨bb, a1, o1, l1, R1, by rw [if_neg gd, ← h1], Z1, _, rfl, hZs, fun q hq => by rw [px_up_ne _ _ (by omega)]; exact s1.2 q (by omega), fun _ => by rw [px_up_self, hF0], fun q => absurd q gd⟩
  refine px_PW.steps kt_137.2 1 rfl ?_
  refine px_PW.br (fun c0 => ?_) (fun c0 => ?_)
  · have c0 : ¬ (bb = true) := px_b1z (of_decide_eq_true c0)
    exact bad (fun q => c0 q.1)
  · have c0 : bb = true := px_b1n (of_decide_eq_false c0)
    refine px_PW.steps kt_137.2 6 rfl ?_
    rw [h1, show F1 0 (Int32.toNatClampNeg 8) = nI P from hF8]
    refine px_PW.steps kt_137.2 1 rfl ?_
    refine px_PW.br (fun c1 => ?_) (fun c1 => ?_)
    · have c1 : ¬ (nI a1 = nI P) := of_decide_eq_false (px_nt c1)
      exact bad (fun q => c1 (by rw [q.2]))
    · have c1 : nI a1 = nI P := of_decide_eq_true (px_nf c1)
      have c2 : a1 = P := (nI_eq (by omega) (by omega)).mp c1
      have gd : bb = true ∧ a1 = P := ⟨c0, c2⟩
      refine px_PW.steps kt_137.2 7 rfl ?_
      refine ms_0 kt_137.2 rfl (n := 8) rfl (by omega) ?_
      refine px_PW.steps kt_137.2 2 rfl ?_
      refine px_PW.br (fun _ => ?_) (fun c0 => absurd c0 (by decide))
      refine px_PW.steps kt_137.2 11 rfl ?_
      refine ms_0 kt_137.2 rfl (n := 36) rfl (by omega) ?_
      refine px_PW.steps kt_137.2 2 rfl ?_
      rw [px_up_up, px_up_self, h3]
      have g := m_cp_loop (Z := Z1) (F := va_up F1 0 (F1 0)) (f := upd (upd (F1 0) 8 0) 36 (nI l1.length)) (L := l1.length) (u := 0) (b := 36) (gv := 1) (d := 38) (Q := (fun r h' => ∃ (bb : Bool) (a' o' : Nat) (l' : m_L), m_R P T 0 0 0 0 [] bb a' o' l' ∧ r = some (.int (if bb = true ∧ a' = P then 1 else -10 - nI a')) ∧ ∃ (Z' : Nat → Int32) (F' : Nat → Nat → Int32), h' = ([], px_MH Z' F') ∧ (∀ i : Nat, ¬ (1 ≤ i ∧ i ≤ 4) → Z' i = Z i) ∧ (∀ q : Nat, ¬ (q = 0 ∨ q = 5) → F' q = F q) ∧ (¬ (bb = true ∧ a' = P) → F' 0 = upd (F 0) 8 0) ∧ ((bb = true ∧ a' = P) → ∃ g : Nat → Int32, m_st g l' ∧ F' 0 = zz_pl g (upd (upd (F 0) 8 0) 36 (nI l'.length)) 37 (2 * l'.length)))) hl60 h3 (by omega) (2 * l1.length) 0 (by omega)
      rw [zz_pl_0, px_up_up] at g
      refine g ?_
      refine px_PW.steps kt_137.2 1 rfl ?_
      refine px_PW.ret kt_137.2 rfl rfl ?_
      refine ⟨bb, a1, o1, l1, R1, by rw [if_pos gd], Z1, _, rfl, hZs, fun q hq => ?_, fun q => absurd gd q, fun _ => ⟨F1 5, r1.2.2.2.2.2.2, ?_⟩⟩
      · rw [px_up_ne _ _ (by omega)]; exact s1.2 q (by omega)
      · first | rw [px_up_self, px_up_ne _ _ (by omega), hF0] | rw [px_up_self, hF0]
theorem kc_mtext1 {Z : Nat → Int32} {F : Nat → Nat → Int32} {P : Nat} {T : Nat → Int32} (hP : P ≤ 60) (hN : F 0 8 = nI P) (hT : ∀ j : Nat, j < P → F 0 (286 + j) = T j) : px_PM 39 137 [.ref 1000, .int 1] ([], px_MH Z F) (fun r h' => ∃ (bb : Bool) (a' o' : Nat) (l' : m_L), m_R P T 1 0 0 0 [] bb a' o' l' ∧ r = some (.int (if bb = true ∧ a' = P then 1 else -10 - nI a')) ∧ ∃ (Z' : Nat → Int32) (F' : Nat → Nat → Int32), h' = ([], px_MH Z' F') ∧ (∀ i : Nat, ¬ (1 ≤ i ∧ i ≤ 4) → Z' i = Z i) ∧ (∀ q : Nat, ¬ (q = 0 ∨ q = 5) → F' q = F q) ∧ (¬ (bb = true ∧ a' = P) → F' 0 = upd (F 0) 8 0) ∧ ((bb = true ∧ a' = P) → ∃ g : Nat → Int32, m_st g l' ∧ F' 0 = zz_pl g (upd (upd (F 0) 8 0) 161 (nI l'.length)) 162 (2 * l'.length))) := by
  refine px_PM.start (nL := 5) (code := pc_137) rfl rfl ?_
  refine px_PW.steps kt_137.2 3 rfl ?_
  refine px_PW.callS kt_137.2 rfl rfl rfl (cm_117 _ _ _ _) (by decide) (fun v h1 q => ?_)
  obtain ⟨rfl, rfl⟩ := q
  rw [if_pos (by decide)]
  refine px_PW.steps kt_137.2 1 rfl ?_
  refine px_PW.br (fun _ => ?_) (fun c0 => absurd c0 (by decide))
  refine px_PW.steps kt_137.2 2 rfl ?_
  refine mo_4 kt_137.2 rfl ?_
  refine px_PW.steps kt_137.2 2 rfl ?_
  refine mo_1 kt_137.2 rfl ?_
  refine px_PW.steps kt_137.2 2 rfl ?_
  refine mo_2 kt_137.2 rfl ?_
  refine px_PW.steps kt_137.2 2 rfl ?_
  refine mo_3 kt_137.2 rfl ?_
  refine px_PW.steps kt_137.2 1 rfl ?_
  have hr0 : m_rep P T 1 (upd (upd (upd (upd Z 4 1) 1 0) 2 0) 3 0) F 0 0 [] := ⟨⟨hN, hP, hT⟩, ⟨Nat.zero_le _, by omega, Nat.le_refl 0, by omega⟩, by rw [px_upd_ne _ _ (by omega), px_upd_ne _ _ (by omega), px_upd_self]; rfl, by rw [px_upd_ne _ _ (by omega), px_upd_self]; rfl, px_upd_self _ _ _, by rw [px_upd_ne _ _ (by omega), px_upd_ne _ _ (by omega), px_upd_ne _ _ (by omega), px_upd_self]; rfl, trivial⟩
  refine px_PW.callV kt_137.2 rfl rfl rfl rfl (mk_whole hr0) (Nat.le_refl 38) (fun v h1 q => ?_)
  obtain ⟨bb, a1, o1, l1, Z1, F1, rfl, rfl, R1, r1, s1⟩ := q
  have hZs : ∀ i : Nat, ¬ (1 ≤ i ∧ i ≤ 4) → Z1 i = Z i := fun i hi => by rw [s1.1 i (by omega), px_upd_ne _ _ (by omega), px_upd_ne _ _ (by omega), px_upd_ne _ _ (by omega), px_upd_ne _ _ (by omega)]
  have hF0 : F1 0 = F 0 := s1.2 0 (by omega)
  have hF8 : F1 0 8 = nI P := by rw [hF0]; exact hN
  have h1 : Z1 1 = nI a1 := r1.2.2.1
  have h3 : Z1 3 = nI l1.length := r1.2.2.2.2.1
  have hl60 : l1.length ≤ 60 := Nat.le_trans r1.2.1.2.2.1 (Nat.le_trans r1.2.1.1 hP)
  have ha60 : a1 ≤ 60 := Nat.le_trans r1.2.1.1 hP
  have bad : ∀ (gd : ¬ (bb = true ∧ a1 = P)), px_PW 38 pc_137 (fun r h' => ∃ (bb : Bool) (a' o' : Nat) (l' : m_L), m_R P T 1 0 0 0 [] bb a' o' l' ∧ r = some (.int (if bb = true ∧ a' = P then 1 else -10 - nI a')) ∧ ∃ (Z' : Nat → Int32) (F' : Nat → Nat → Int32), h' = ([], px_MH Z' F') ∧ (∀ i : Nat, ¬ (1 ≤ i ∧ i ≤ 4) → Z' i = Z i) ∧ (∀ q : Nat, ¬ (q = 0 ∨ q = 5) → F' q = F q) ∧ (¬ (bb = true ∧ a' = P) → F' 0 = upd (F 0) 8 0) ∧ ((bb = true ∧ a' = P) → ∃ g : Nat → Int32, m_st g l' ∧ F' 0 = zz_pl g (upd (upd (F 0) 8 0) 161 (nI l'.length)) 162 (2 * l'.length))) 60 [some (.ref 1000), some (.int 1), none, none, none] [] ([], px_MH Z1 F1) := by
    intro gd
    refine px_PW.steps kt_137.2 6 rfl ?_
    refine ms_0 kt_137.2 rfl (n := 8) rfl (by omega) ?_
    refine px_PW.steps kt_137.2 2 rfl ?_
    refine px_PW.br (fun c0 => absurd c0 (by decide)) (fun _ => ?_)
    refine px_PW.steps kt_137.2 4 rfl ?_
    refine px_PW.ret kt_137.2 rfl rfl ?_
    exact ⟨bb, a1, o1, l1, R1, by rw [if_neg gd, ← h1], Z1, _, rfl, hZs, fun q hq => by rw [px_up_ne _ _ (by omega)]; exact s1.2 q (by omega), fun _ => by rw [px_up_self, hF0], fun q => absurd q gd⟩
  refine px_PW.steps kt_137.2 1 rfl ?_
  refine px_PW.br (fun c0 => ?_) (fun c0 => ?_)
  · have c0 : ¬ (bb = true) := px_b1z (of_decide_eq_true c0)
    exact bad (fun q => c0 q.1)
  · have c0 : bb = true := px_b1n (of_decide_eq_false c0)
    refine px_PW.steps kt_137.2 6 rfl ?_
    rw [h1, show F1 0 (Int32.toNatClampNeg 8) = nI P from hF8]
    refine px_PW.steps kt_137.2 1 rfl ?_
    refine px_PW.br (fun c1 => ?_) (fun c1 => ?_)
    · have c1 : ¬ (nI a1 = nI P) := of_decide_eq_false (px_nt c1)
      exact bad (fun q => c1 (by rw [q.2]))
    · have c1 : nI a1 = nI P := of_decide_eq_true (px_nf c1)
      have c2 : a1 = P := (nI_eq (by omega) (by omega)).mp c1
      have gd : bb = true ∧ a1 = P := ⟨c0, c2⟩
      refine px_PW.steps kt_137.2 7 rfl ?_
      refine ms_0 kt_137.2 rfl (n := 8) rfl (by omega) ?_
      refine px_PW.steps kt_137.2 2 rfl ?_
      refine px_PW.br (fun _ => ?_) (fun c0 => absurd c0 (by decide))
      refine px_PW.steps kt_137.2 11 rfl ?_
      refine ms_0 kt_137.2 rfl (n := 161) rfl (by omega) ?_
      refine px_PW.steps kt_137.2 2 rfl ?_
      rw [px_up_up, px_up_self, h3]
      have g := m_cp_loop (Z := Z1) (F := va_up F1 0 (F1 0)) (f := upd (upd (F1 0) 8 0) 161 (nI l1.length)) (L := l1.length) (u := 1) (b := 161) (gv := 1) (d := 38) (Q := (fun r h' => ∃ (bb : Bool) (a' o' : Nat) (l' : m_L), m_R P T 1 0 0 0 [] bb a' o' l' ∧ r = some (.int (if bb = true ∧ a' = P then 1 else -10 - nI a')) ∧ ∃ (Z' : Nat → Int32) (F' : Nat → Nat → Int32), h' = ([], px_MH Z' F') ∧ (∀ i : Nat, ¬ (1 ≤ i ∧ i ≤ 4) → Z' i = Z i) ∧ (∀ q : Nat, ¬ (q = 0 ∨ q = 5) → F' q = F q) ∧ (¬ (bb = true ∧ a' = P) → F' 0 = upd (F 0) 8 0) ∧ ((bb = true ∧ a' = P) → ∃ g : Nat → Int32, m_st g l' ∧ F' 0 = zz_pl g (upd (upd (F 0) 8 0) 161 (nI l'.length)) 162 (2 * l'.length)))) hl60 h3 (by omega) (2 * l1.length) 0 (by omega)
      rw [zz_pl_0, px_up_up] at g
      refine g ?_
      refine px_PW.steps kt_137.2 1 rfl ?_
      refine px_PW.ret kt_137.2 rfl rfl ?_
      refine ⟨bb, a1, o1, l1, R1, by rw [if_pos gd], Z1, _, rfl, hZs, fun q hq => ?_, fun q => absurd gd q, fun _ => ⟨F1 5, r1.2.2.2.2.2.2, ?_⟩⟩
      · rw [px_up_ne _ _ (by omega)]; exact s1.2 q (by omega)
      · first | rw [px_up_self, px_up_ne _ _ (by omega), hF0] | rw [px_up_self, hF0]
theorem kc_mtextB {Z : Nat → Int32} {F : Nat → Nat → Int32} (use : Int32) (hb : ¬ (use = 0 ∨ use = 1)) : px_PM 39 137 [.ref 1000, .int use] ([], px_MH Z F) (fun r h' => r = some (.int (-1000000001)) ∧ ∃ Z' F', px_sm Z F Z' F' ∧ h' = ([], px_MH Z' F')) := by
  refine px_PM.start (nL := 5) (code := pc_137) rfl rfl ?_
  refine px_PW.steps kt_137.2 3 rfl ?_
  refine px_PW.callS kt_137.2 rfl rfl rfl (cm_117 _ _ _ _) (by decide) (fun v h1 q => ?_)
  obtain ⟨rfl, rfl⟩ := q
  rw [if_neg (fun q => by
    obtain ⟨e, hl⟩ := px_in5 (n := 1) (by decide) q
    rcases (show use.toNatClampNeg = 0 ∨ use.toNatClampNeg = 1 by omega) with h | h
    · exact hb (Or.inl (by rw [e, h]; rfl))
    · exact hb (Or.inr (by rw [e, h]; rfl)))]
  refine px_PW.steps kt_137.2 1 rfl ?_
  refine px_PW.br (fun c0 => absurd c0 (by decide)) (fun _ => ?_)
  refine px_PW.steps kt_137.2 2 rfl ?_
  refine px_PW.callV kt_137.2 rfl rfl rfl rfl (mm_error 1 (by decide)) (by decide) (fun v h1 q => ?_)
  obtain ⟨rfl, rfl⟩ := q
  refine px_PW.ret kt_137.2 rfl rfl ?_
  exact ⟨rfl, _, _, px_sm.err, rfl⟩
/-- steps in their order, from what they do to how many numbers there are -/
theorem m_wf {ok : Int32 → Prop} {wt v : Nat → Int32} : ∀ (l : m_L) (m k d d' : Nat), (∀ i : Nat, i < l.length → wt (k + i) = (l.getD (l.length - 1 - i) (0, 0)).1 ∧ v (k + i) = (l.getD (l.length - 1 - i) (0, 0)).2) → m_ef ok l d d' → r_wf ok wt v m (k + l.length) d' → r_wf ok wt v (l.length + m) k d
  | [], m, k, d, d', _, h, hw => by
    have h : d' = d := h
    subst h
    rw [show ([] : m_L).length + m = m from Nat.zero_add m]
    exact hw
  | p :: r, m, k, d, d', he, ⟨d1, h1, h2⟩, hw => by
    have e := he r.length (by simp)
    simp only [List.length_cons, Nat.add_sub_cancel, Nat.sub_self, List.getD_cons_zero] at e
    have hw' : r_wf ok wt v (m + 1) (k + r.length) d1 := by
      have hw : r_wf ok wt v m (k + r.length + 1) d' := hw
      unfold r_wf
      rw [e.1, e.2]
      rcases h2 with ⟨q, rfl⟩ | ⟨q, q2, rfl⟩ | ⟨q, q2, rfl⟩ | ⟨q, q2, q3⟩
      · exact Or.inl ⟨q, hw⟩
      · exact Or.inr (Or.inl ⟨q, q2, hw⟩)
      · exact Or.inr (Or.inr (Or.inl ⟨q, q2, hw⟩))
      · exact Or.inr (Or.inr (Or.inr ⟨q, q2, by rw [show d1 - 1 = d' by omega]; exact hw⟩))
    rw [show (p :: r).length + m = r.length + (m + 1) by simp only [List.length_cons]; omega]
    refine m_wf r (m + 1) k d d1 (fun i hi => ?_) h1 hw'
    have e2 := he i (by simp only [List.length_cons]; omega)
    simp only [List.length_cons, Nat.add_sub_cancel] at e2
    rw [show r.length - i = (r.length - 1 - i) + 1 by omega, List.getD_cons_succ] at e2
    exact e2
theorem m_st_get {g : Nat → Int32} : ∀ (l : m_L), m_st g l → ∀ i : Nat, i < l.length → g (2 * i) = (l.getD (l.length - 1 - i) (0, 0)).1 ∧ g (2 * i + 1) = (l.getD (l.length - 1 - i) (0, 0)).2
  | [], _, i, hi => absurd hi (Nat.not_lt_zero i)
  | p :: r, h, i, hi => by
    simp only [List.length_cons, Nat.add_sub_cancel] at hi ⊢
    rcases Nat.lt_or_ge i r.length with c | c
    · rw [show r.length - i = (r.length - 1 - i) + 1 by omega, List.getD_cons_succ]
      exact m_st_get r h.2.2 i c
    · obtain rfl : i = r.length := by omega
      rw [Nat.sub_self, List.getD_cons_zero]
      exact ⟨h.1, h.2.1⟩
/-- a TEXT just laid is in order -/
theorem m_tx {ok : Int32 → Prop} {g f : Nat → Int32} {l : m_L} {b : Nat} (hl : l.length ≤ 60) (hg : m_st g l) (he : m_ef ok l 0 1) {s : Nat → Int32} (hs : s = zz_pl g (upd f b (nI l.length)) (b + 1) (2 * l.length)) : ∃ n : Nat, n ≤ 62 ∧ s b = nI n ∧ r_wf ok (fun k => s (b + 1 + 2 * k)) (fun k => s (b + 2 + 2 * k)) n 0 0 := by
  subst hs
  refine ⟨l.length, by omega, ?_, ?_⟩
  · unfold zz_pl
    rw [if_neg (by omega), px_upd_self]
  · have h := m_wf (ok := ok) (wt := fun k => zz_pl g (upd f b (nI l.length)) (b + 1) (2 * l.length) (b + 1 + 2 * k)) (v := fun k => zz_pl g (upd f b (nI l.length)) (b + 1) (2 * l.length) (b + 2 + 2 * k)) l 0 0 0 1 (fun i hi => ?_) he rfl
    · exact h
    · have e := m_st_get l hg i hi
      try dsimp only
      unfold zz_pl
      rw [Nat.zero_add, if_pos (by omega), if_pos (by omega), show b + 1 + 2 * i - (b + 1) = 2 * i by omega, show b + 2 + 2 * i - (b + 1) = 2 * i + 1 by omega]
      exact e
theorem m_R.ef {P : Nat} {T : Nat → Int32} {u a' o' : Nat} {l' : m_L} (h : m_R P T u 0 0 0 [] true a' o' l') : m_ef (m_nm u) l' 0 1 ∧ l'.length ≤ a' := by
  obtain ⟨-, -, -, -, t, h5, h6, h7⟩ := h.S
  obtain ⟨-, e2, -⟩ := h7 rfl
  rw [List.append_nil] at h5
  subst h5
  unfold m_eff at e2
  rw [if_pos (by omega)] at e2
  exact ⟨e2 0, by omega⟩
theorem m_ef_mono {ok ok2 : Int32 → Prop} (hk : ∀ v, ok v → ok2 v) : ∀ (l : m_L) {d d' : Nat}, m_ef ok l d d' → m_ef ok2 l d d'
  | [], d, d', h => h
  | p :: r, d, d', ⟨d1, h1, h2⟩ => ⟨d1, m_ef_mono hk r h1, h2.imp id (Or.imp (fun q => ⟨q.1, hk _ q.2.1, q.2.2⟩) id)⟩
theorem m_nm_ok0 (v : Int32) (h : m_nm 0 v) : r_ok0 v := by
  rcases h with ⟨-, h | h | h⟩ | ⟨h, -⟩
  · exact Or.inr (Or.inl h)
  · exact Or.inl h
  · exact Or.inr (Or.inr h)
  · cases h
theorem m_nm_ok1 (v : Int32) (h : m_nm 1 v) : r_ok1 v := by
  rcases h with ⟨h, -⟩ | ⟨-, h | h | h⟩
  · cases h
  · exact Or.inr (Or.inl h)
  · exact Or.inl h
  · exact Or.inr (Or.inr h)
/-- both tapes are empty then; TEXTS are as they are -/
theorem RR.tapeNo {Z N Zm : Nat → Int32} {F G : Nat → Nat → Int32} (h : RR Z N F Zm G) : RR Z (upd N 5 0) F Zm (va_up G 0 (upd (G 0) 8 0)) := by
  refine RR.now h (fun _ _ => rfl) (fun j hj => px_upd_ne _ _ (by omega)) (fun j hj => rfl) (h.1.upd (by decide) (by decide) (by decide) ⟨by decide, by decide⟩) ?_ ?_ ⟨fun i hi => absurd (by rw [px_upd_self] at hi; exact hi) (Nat.not_lt_zero i), h.tt.2.1.cg rfl (fun _ _ => rfl) (fun j h1 h2 => px_upd_ne _ _ (by omega)), h.tt.2.2.cg rfl (fun _ _ => rfl) (fun j h1 h2 => px_upd_ne _ _ (by omega))⟩
  · obtain ⟨W, w1, w2, -⟩ := h.W
    exact g_row_hi h.2.1 (fun j hj => px_upd_ne _ _ (by omega)) ⟨0, by omega, px_upd_self _ _ _⟩ ⟨W, w1, (px_upd_ne _ _ (by omega)).trans w2⟩
  · obtain ⟨a1, a2, ⟨a3, a4⟩, ⟨a5, a6, a7, a8⟩, a9, a10, a11⟩ := h.2.2.1
    refine ⟨fun i hi => (a1 i hi).trans (px_upd_ne _ _ (by omega)).symm, a2.trans (px_upd_ne _ _ (by omega)).symm, ⟨by rw [px_upd_self, px_upd_self], by rw [px_upd_ne _ _ (by omega), px_upd_ne _ _ (by omega)]; exact a4⟩, ?_, fun n hn => ?_, fun i hi => ?_, fun i hi => ?_⟩
    · rw [px_upd_ne (G 0) _ (by omega), px_upd_ne N _ (by omega), px_upd_ne N _ (by omega), px_upd_ne N _ (by omega), px_upd_ne N _ (by omega)]; exact ⟨a5, a6, a7, a8⟩
    · rw [px_upd_ne _ _ (by omega)] at hn
      rw [px_upd_ne _ _ (by omega), px_upd_ne _ _ (by omega), px_upd_ne _ _ (by omega), px_upd_ne _ _ (by omega)]
      exact a9 n hn
    · rw [px_upd_self] at hi
      exact absurd hi (Nat.not_lt_zero i)
    · rw [px_upd_ne _ _ (by omega)] at hi
      rw [px_upd_ne _ _ (by omega)]
      exact a11 i hi
theorem px_st_ex {jc jm d1 d2 : Nat} {as : List Value} {c : Prop} {Z N Zm : Nat → Int32} {F G : Nat → Nat → Int32} {Qc Qm : Option Value → px_H → Prop} (hc : px_PM d1 jc (.ref 0 :: as) (px_CH Z N F, []) Qc) (hd1 : d1 ≤ 50) (hm : px_PM d2 jm (.ref 1000 :: as) ([], px_MH Zm G) Qm) (hd2 : d2 ≤ 50) (k : ∀ v h' v2 h2, Qc v h' → Qm v2 h2 → ∃ (a b : Int32) (Z' N' : Nat → Int32) (F' : Nat → Nat → Int32) (Zm' : Nat → Int32) (G' : Nat → Nat → Int32), (v = some (.int a) ∧ h' = (px_CH Z' N' F', [])) ∧ (v2 = some (.int b) ∧ h2 = ([], px_MH Zm' G')) ∧ RR Z' N' F' Zm' G' ∧ (c → a = b)) :
    ∃ (a b : Int32) (Z' N' : Nat → Int32) (F' : Nat → Nat → Int32) (Zm' : Nat → Int32) (G' : Nat → Nat → Int32), px_PM 50 jc (.ref 0 :: as) (px_CH Z N F, []) (fun r h' => r = some (.int a) ∧ h' = (px_CH Z' N' F', [])) ∧ px_PM 50 jm (.ref 1000 :: as) ([], px_MH Zm G) (fun r h' => r = some (.int b) ∧ h' = ([], px_MH Zm' G')) ∧ RR Z' N' F' Zm' G' ∧ (c → a = b) := by
  obtain ⟨v, h', q1, hp⟩ := hc.ex
  obtain ⟨v2, h2, q2, hp2⟩ := hm.ex
  obtain ⟨a, b, Z', N', F', Zm', G', ⟨rfl, rfl⟩, ⟨rfl, rfl⟩, hR, he⟩ := k v h' v2 h2 q1 q2
  exact ⟨a, b, Z', N', F', Zm', G', hp 50 hd1, hp2 50 hd2, hR, he⟩
end
/-! part 66.w2.sim -/
section
/-! THE TWO READERS: what the reference's reads, the class's reads (66.v1: by hand) -/
theorem i_lt_of {a b : Int32} (h : ¬ (a < b)) {c : Int32} (hc : c ≤ b) : ¬ (a < c) := by
  rw [Int32.lt_iff_toInt_lt] at h ⊢
  rw [Int32.le_iff_toInt_le] at hc
  omega
theorem q_stl_comp {r r' : Int32} (hr : r' ≤ r) : ∀ (p c : List Int32) (o : Int32), t_stl r' c p o = t_stl r' (t_stl r c p o).1 (t_stl r c p o).2.1 (t_stl r c p o).2.2
  | [], c, o => rfl
  | x :: p, c, o => by
    by_cases h : t_rank x < r
    · rw [show t_stl r c (x :: p) o = (c, x :: p, o) from if_pos h]
    · rw [show t_stl r c (x :: p) o = t_stl r (-x :: c) p (if x = 33 then o - 1 else o) from if_neg h, show t_stl r' c (x :: p) o = t_stl r' (-x :: c) p (if x = 33 then o - 1 else o) from if_neg (i_lt_of h hr)]
      exact q_stl_comp hr p _ _
theorem q_stl_stop {r : Int32} {c p : List Int32} {o : Int32} (h : t_rank (p.headD 0) < r) : t_stl r c p o = (c, p, o) := by
  cases p with
  | nil => rfl
  | cons x p => exact if_pos h
/-- equal when settled by a rank: equal when settled by a lower one -/
theorem q_stl_le {r r' : Int32} (hr : r' ≤ r) {c p c' p' : List Int32} {o o' : Int32} (h : t_stl r c p o = t_stl r c' p' o') : t_stl r' c p o = t_stl r' c' p' o' := by
  rw [q_stl_comp hr p c o, q_stl_comp hr p' c' o', h]
/-- the class's reader goes from one state at a place to another at another -/
def q_run (u : Nat) (T : Nat → Int32) (i : Nat) (R : t_R) (j : Nat) (R' : t_R) : Prop := ∃ k : Nat, j = i + k ∧ ∀ m : Nat, t_run u T (k + m) i R = t_run u T m j R'
theorem q_run.rf {u : Nat} {T : Nat → Int32} {i : Nat} {R : t_R} : q_run u T i R i R := ⟨0, rfl, fun m => by rw [Nat.zero_add]⟩
theorem q_run.tr {u : Nat} {T : Nat → Int32} {i j k : Nat} {R R1 R2 : t_R} (h : q_run u T i R j R1) (g : q_run u T j R1 k R2) : q_run u T i R k R2 := by
  obtain ⟨a, rfl, h⟩ := h
  obtain ⟨b, rfl, g⟩ := g
  exact ⟨a + b, by omega, fun m => by rw [Nat.add_assoc, h, g]⟩
theorem q_run.one {u : Nat} {T : Nat → Int32} {i : Nat} {R R' : t_R} (h : t_sign u (T i) R = (R', true)) : q_run u T i R (i + 1) R' := ⟨1, rfl, fun m => by rw [Nat.add_comm 1 m]; exact t_run_y h rfl⟩
/-- the class's reader comes to a FAULT here -/
def q_stk (P u : Nat) (T : Nat → Int32) (R : t_R) (a : Nat) : Prop := (a < P → (t_sign u (T a) R).2 = false) ∧ (P ≤ a → R.2.2.2.2 = true ∨ ¬ (nI (t_stl 1 R.1 R.2.1 R.2.2.1).2.1.length ≤ 0))
/-- the class's reader behind what a level has read: settled by the level's rank it holds c and p; levels from n on do not go on -/
def q_A (P : Nat) (T : Nat → Int32) (L n : Nat) (R : t_R) (a : Nat) (c p : List Int32) (o : Int32) : Prop :=
  R.2.2.2.2 = false ∧ t_stl (nI (L + 1)) R.1 R.2.1 R.2.2.1 = t_stl (nI (L + 1)) c p o ∧ (m_dg (m_lk P T a) → R.2.2.2.1 < 1 ∨ ¬ (R.2.2.2.1 < 4)) ∧ (∀ L' : Nat, n ≤ L' → ¬ m_sg L' (m_lk P T a)) ∧ (L ≤ 2 → m_cp (m_lk P T a) → t_rank ((t_stl 4 R.1 R.2.1 R.2.2.1).2.1.headD 0) = 3)
def q_S1 (P : Nat) (T : Nat → Int32) (u : Nat) : m_T := fun L a o l b a' _ l' => ∀ c p : List Int32, p.length ≤ a → (L ≤ 4 → t_rank (p.headD 0) < nI (L + 1)) → (b = true → ∃ (t : m_L) (R1 : t_R), l' = t ++ l ∧ q_run u T a (c, p, nI o, 0, true) a' R1 ∧ q_A P T L L R1 a' (t.map (q_enc u) ++ c) p (nI o)) ∧ (b = false → ∃ R1 : t_R, q_run u T a (c, p, nI o, 0, true) a' R1 ∧ q_stk P u T R1 a')
def q_S2 (P : Nat) (T : Nat → Int32) (u : Nat) : m_T := fun L a o l b a' _ l' => ∀ (R0 : t_R) (c p : List Int32), p.length ≤ a → t_rank (p.headD 0) < nI (L + 1) → q_A P T L (L + 1) R0 a c p (nI o) → (b = true → ∃ (t : m_L) (R1 : t_R), l' = t ++ l ∧ q_run u T a R0 a' R1 ∧ q_A P T L L R1 a' (t.map (q_enc u) ++ c) p (nI o)) ∧ (b = false → ∃ R1 : t_R, q_run u T a R0 a' R1 ∧ q_stk P u T R1 a')
def q_Sim (P : Nat) (T : Nat → Int32) (u : Nat) : m_T := fun L a o l b a' o' l' => m_S P u L a o l b a' o' l' ∧ (a ≤ P → o ≤ 5 → if L < 10 then q_S1 P T u L a o l b a' o' l' else q_S2 P T u (L - 10) a o l b a' o' l')
section QR
variable {P : Nat} {T : Nat → Int32} {u : Nat}
theorem m_lk_T {a : Nat} (h : a < P) : m_lk P T a = T a := if_pos h
/-- a sign of two sides behind something read -/
theorem q_goOp {L : Nat} {s : Int32} (hL : m_bin L) (hs : m_sg L s) {R : t_R} (hw : R.2.2.2.2 = false) : t_sign u s R = (((t_stl (nI (L + 1)) R.1 R.2.1 R.2.2.1).1, s :: (t_stl (nI (L + 1)) R.1 R.2.1 R.2.2.1).2.1, (t_stl (nI (L + 1)) R.1 R.2.1 R.2.2.1).2.2, 0, true), true) := by
  obtain ⟨c, p, o, d, w⟩ := R
  have hw : w = false := hw
  subst hw
  rcases hs with ⟨rfl, rfl⟩ | ⟨rfl, rfl⟩ | ⟨rfl, rfl | rfl⟩ | ⟨rfl, rfl | rfl | rfl⟩ <;> rfl
theorem q_goCp {s : Int32} (hs : m_cp s) {R : t_R} (hw : R.2.2.2.2 = false) : t_sign u s R = if t_rank ((t_stl 4 R.1 R.2.1 R.2.2.1).2.1.headD 0) = 3 then (((t_stl 4 R.1 R.2.1 R.2.2.1).1, (t_stl 4 R.1 R.2.1 R.2.2.1).2.1, (t_stl 4 R.1 R.2.1 R.2.2.1).2.2, 0, false), false) else (((t_stl 4 R.1 R.2.1 R.2.2.1).1, s :: (t_stl 4 R.1 R.2.1 R.2.2.1).2.1, (t_stl 4 R.1 R.2.1 R.2.2.1).2.2, 0, true), true) := by
  obtain ⟨c, p, o, d, w⟩ := R
  have hw : w = false := hw
  subst hw
  rcases hs with rfl | rfl | rfl <;> rfl
theorem q_goClose {R : t_R} (hw : R.2.2.2.2 = false) : t_sign u 41 R = t_close R.1 R.2.1 R.2.2.1 0 false := by
  obtain ⟨c, p, o, d, w⟩ := R
  have hw : w = false := hw
  subst hw
  rfl
theorem q_goDg {s : Int32} (hs : m_dg s) {R : t_R} (hw : R.2.2.2.2 = false) : t_sign u s R = t_dgt (s - 48) R.1 R.2.1 R.2.2.1 R.2.2.2.1 false := by
  obtain ⟨c, p, o, d, w⟩ := R
  have hw : w = false := hw
  subst hw
  have e : ¬ (s < 48 ∨ 57 < s) := fun q => q.elim (fun q => absurd hs.1 (Int32.not_le.mpr q)) (fun q => absurd hs.2 (Int32.not_le.mpr q))
  exact if_neg e
theorem q_rank_0 {s : Int32} (h1 : ∀ L : Nat, ¬ m_sg L s) (h2 : ¬ m_cp s) (h3 : ¬ (s = 33)) : t_rank s = 0 := by
  have n1 : ¬ (s = 37) := fun q => h1 4 (Or.inr (Or.inr (Or.inr ⟨rfl, Or.inr (Or.inr q)⟩)))
  have n2 : ¬ (s = 38) := fun q => h1 1 (Or.inr (Or.inl ⟨rfl, q⟩))
  have n3 : ¬ (s = 42) := fun q => h1 4 (Or.inr (Or.inr (Or.inr ⟨rfl, Or.inl q⟩)))
  have n4 : ¬ (s = 43) := fun q => h1 3 (Or.inr (Or.inr (Or.inl ⟨rfl, Or.inl q⟩)))
  have n5 : ¬ (s = 45) := fun q => h1 3 (Or.inr (Or.inr (Or.inl ⟨rfl, Or.inr q⟩)))
  have n6 : ¬ (s = 47) := fun q => h1 4 (Or.inr (Or.inr (Or.inr ⟨rfl, Or.inr (Or.inl q)⟩)))
  have n7 : ¬ (s = 60) := fun q => h2 (Or.inl q)
  have n8 : ¬ (s = 61) := fun q => h2 (Or.inr (Or.inl q))
  have n9 : ¬ (s = 62) := fun q => h2 (Or.inr (Or.inr q))
  have n10 : ¬ (s = 124) := fun q => h1 0 (Or.inl ⟨rfl, q⟩)
  unfold t_rank
  rw [if_neg h3, if_neg n1, if_neg n2, if_neg n3, if_neg n4, if_neg n5, if_neg n6, if_neg n7, if_neg n8, if_neg n9, if_neg n10]
/-- behind a whole text the class's reader does not go on, but by a ) -/
theorem q_A_stk {R : t_R} {a : Nat} {c p : List Int32} {o : Int32} (h : q_A P T 0 0 R a c p o) (ha : a < P) (h41 : ¬ (T a = 41)) : (t_sign u (T a) R).2 = false := by
  obtain ⟨hw, h1, h2, h3, h4⟩ := h
  rw [m_lk_T ha] at h2 h3 h4
  by_cases cd : m_dg (T a)
  · rw [q_goDg cd hw]
    unfold t_dgt
    rcases h2 cd with q | q
    · rw [if_pos q]
    · by_cases q1 : R.2.2.2.1 < 1
      · rw [if_pos q1]
      · rw [if_neg q1, if_neg q]
  by_cases cc : m_cp (T a)
  · rw [q_goCp cc hw, if_pos (h4 (by omega) cc)]
  obtain ⟨c1, p1, o1, d1, w1⟩ := R
  have hw : w1 = false := hw
  subst hw
  have e : T a < 48 ∨ 57 < T a := by
    by_cases q1 : T a < 48
    · exact Or.inl q1
    · by_cases q2 : 57 < T a
      · exact Or.inr q2
      · exact absurd ⟨Int32.not_lt.mp q1, Int32.not_lt.mp q2⟩ cd
  show (t_goOn (T a) c1 p1 o1 d1 false).2 = false
  unfold t_goOn
  rw [if_pos e, if_neg h41]
  by_cases c33 : T a = 33
  · rw [c33]
    rfl
  · rw [q_rank_0 (fun L => h3 L (Nat.zero_le L)) cc c33]
    rfl
theorem q_close {R : t_R} {a : Nat} {c p : List Int32} {o : Int32} (h : q_A P T 0 0 R a c (40 :: p) o) (hp : p.length ≤ 60) : t_sign u 41 R = ((c, p, o - 1, 0, false), true) := by
  obtain ⟨hw, h1, -⟩ := h
  rw [q_goClose hw]
  have e : t_stl 1 R.1 R.2.1 R.2.2.1 = (c, 40 :: p, o) := h1.trans (q_stl_stop (r := 1) (show t_rank 40 < 1 by decide))
  unfold t_close
  rw [e]
  exact if_pos (nI_le (a := 1) (b := (40 :: p).length) (by simp) (by simp only [List.length_cons]; omega))
theorem q_Sim.s1 {L a o a' o' : Nat} {l l' : m_L} {b : Bool} (h : q_Sim P T u L a o l b a' o' l') (hL : L < 10) (ha : a ≤ P) (ho : o ≤ 5) : q_S1 P T u L a o l b a' o' l' := by
  have g := h.2 ha ho
  rw [if_pos hL] at g
  exact g
theorem q_Sim.s2 {L a o a' o' : Nat} {l l' : m_L} {b : Bool} (h : q_Sim P T u (L + 10) a o l b a' o' l') (ha : a ≤ P) (ho : o ≤ 5) : q_S2 P T u L a o l b a' o' l' := by
  have g := h.2 ha ho
  rw [if_neg (by omega), Nat.add_sub_cancel] at g
  exact g
theorem q_mk1 {L a o a' o' : Nat} {l l' : m_L} {b : Bool} (hL : L < 10) (hs : m_S P u L a o l b a' o' l') (h : a ≤ P → o ≤ 5 → q_S1 P T u L a o l b a' o' l') : q_Sim P T u L a o l b a' o' l' := by
  refine ⟨hs, fun ha ho => ?_⟩
  rw [if_pos hL]
  exact h ha ho
theorem q_mk2 {L a o a' o' : Nat} {l l' : m_L} {b : Bool} (hs : m_S P u (L + 10) a o l b a' o' l') (h : a ≤ P → o ≤ 5 → q_S2 P T u L a o l b a' o' l') : q_Sim P T u (L + 10) a o l b a' o' l' := by
  refine ⟨hs, fun ha ho => ?_⟩
  rw [if_neg (by omega), Nat.add_sub_cancel]
  exact h ha ho
theorem q_lt_le {a b c : Int32} (h : a < b) (g : b ≤ c) : a < c := by
  rw [Int32.lt_iff_toInt_lt] at h ⊢
  rw [Int32.le_iff_toInt_le] at g
  omega
theorem q_nI_le {n m : Nat} (h : n ≤ m) (hm : m ≤ 100) : nI n ≤ nI m := nI_le h (by omega)
theorem q_rank_sg {L : Nat} {s : Int32} (hs : m_sg L s) : t_rank s = nI (L + 1) ∧ ¬ (s = 33) := by
  rcases hs with ⟨rfl, rfl⟩ | ⟨rfl, rfl⟩ | ⟨rfl, rfl | rfl⟩ | ⟨rfl, rfl | rfl | rfl⟩ <;> exact ⟨rfl, by decide⟩
theorem q_rank_cp {s : Int32} (hs : m_cp s) : t_rank s = 3 ∧ ¬ (s = 33) := by
  rcases hs with rfl | rfl | rfl <;> exact ⟨rfl, by decide⟩
theorem q_sg_no {L : Nat} {s : Int32} (hL : L = 2 ∨ 5 ≤ L) : ¬ m_sg L s := by
  rintro (⟨h, -⟩ | ⟨h, -⟩ | ⟨h, -⟩ | ⟨h, -⟩) <;> omega
theorem q_irr {x : Int32} (h : x < x) : False := by
  rw [Int32.lt_iff_toInt_lt] at h
  omega
/-- a sign of two sides below is settled -/
theorem q_pop {r s : Int32} {c p : List Int32} {o : Int32} (h1 : ¬ (t_rank s < r)) (h2 : ¬ (s = 33)) : t_stl r c (s :: p) o = t_stl r (-s :: c) p o := by
  rw [show t_stl r c (s :: p) o = t_stl r (-s :: c) p (if s = 33 then o - 1 else o) from if_neg h1, if_neg h2]
theorem q_encS (s : Int32) : q_enc u (3, s) = -s := rfl
theorem q_A.down {L : Nat} {R : t_R} {a : Nat} {c p : List Int32} {o : Int32} (h : q_A P T (L + 1) (L + 1) R a c p o) (hL : m_bin L) : q_A P T L (L + 1) R a c p o := by
  obtain ⟨h1, h2, h3, h4, h5⟩ := h
  have hb := m_bin10 hL
  refine ⟨h1, q_stl_le (q_nI_le (by omega) (by omega)) h2, h3, h4, fun q => h5 ?_⟩
  rcases hL with rfl | rfl | rfl | rfl <;> omega
theorem q_num (v s : Int32) : v * 10 + (s - 48) = 10 * v + s - 48 := by
  rw [Int32.mul_comm v 10, Int32.sub_eq_add_neg, Int32.sub_eq_add_neg, Int32.add_assoc]
theorem q_dig {c p : List Int32} {o : Int32} : ∀ (n k a : Nat) (v : Int32), k + n = 4 → 1 ≤ k → ∃ k' : Nat, 1 ≤ k' ∧ k' ≤ 4 ∧ (m_dg (m_lk P T (m_dig P T n a v).2) → k' = 4) ∧ q_run u T a (v :: c, p, o, nI k, false) (m_dig P T n a v).2 ((m_dig P T n a v).1 :: c, p, o, nI k', false)
  | 0, k, a, v, hk, h1 => ⟨k, h1, by omega, fun _ => by omega, q_run.rf⟩
  | n + 1, k, a, v, hk, h1 => by
    by_cases hd : m_dg (m_lk P T a)
    · have ha := m_dg_lt hd
      have e0 : m_dig P T (n + 1) a v = m_dig P T n (a + 1) (10 * v + m_lk P T a - 48) := if_pos hd
      rw [e0]
      obtain ⟨k', g1, g2, g3, g4⟩ := q_dig (c := c) (p := p) (o := o) n (k + 1) (a + 1) (10 * v + m_lk P T a - 48) (by omega) (by omega)
      refine ⟨k', g1, g2, g3, q_run.tr (q_run.one ?_) g4⟩
      rw [m_lk_T ha] at hd ⊢
      rw [q_goDg hd rfl]
      unfold t_dgt
      rw [if_neg (show ¬ (nI k < 1) from nI_nlt (b := 1) h1 (by omega)), if_pos (show nI k < 4 from nI_lt (b := 4) (by omega) (by omega)), nI_succ k, ← q_num]
      rfl
    · have e0 : m_dig P T (n + 1) a v = (v, a) := if_neg hd
      rw [e0]
      exact ⟨k, h1, by omega, fun q => absurd q hd, q_run.rf⟩
theorem q_begDg {s : Int32} {c p : List Int32} {o : Int32} (hs : m_dg s) : t_sign u s (c, p, o, 0, true) = (((s - 48) :: c, p, o, 1, false), true) := by
  have n1 : ¬ (s = 33) := fun q => by subst q; exact absurd hs (by decide)
  have n2 : ¬ (s = 40) := fun q => by subst q; exact absurd hs (by decide)
  have e : ¬ (s < 48 ∨ 57 < s) := fun q => q.elim (fun q => absurd hs.1 (Int32.not_le.mpr q)) (fun q => absurd hs.2 (Int32.not_le.mpr q))
  show t_begin u s c p o 0 true = _
  unfold t_begin
  rw [if_neg n1, if_neg n2, if_neg e]
theorem q_begNm {s : Int32} {c p : List Int32} {o : Int32} (hs : m_nm u s) : t_sign u s (c, p, o, 0, true) = (((-1 - t_ix u s) :: c, p, o, 0, false), true) := by
  rcases hs with ⟨rfl, rfl | rfl | rfl⟩ | ⟨rfl, rfl | rfl | rfl⟩ <;> rfl
theorem q_begOpen {s : Int32} {c p : List Int32} {o : Nat} (hs : s = 33 ∨ s = 40) (ho : o ≤ 5) : t_sign u s (c, p, nI o, 0, true) = ((c, s :: p, nI (o + 1), 0, true), decide (o < 5)) := by
  have key : t_sign u s (c, p, nI o, 0, true) = (if 5 < (nI o + 1) then ((c, s :: p, nI o + 1, 0, true), false) else ((c, s :: p, nI o + 1, 0, true), true)) := by
    rcases hs with rfl | rfl <;> rfl
  rw [key, ← nI_succ o]
  by_cases c5 : o < 5
  · rw [if_neg (show ¬ ((5 : Int32) < nI (o + 1)) from nI_nlt (a := 5) (b := o + 1) (by omega) (by omega)), decide_eq_true c5]
  · rw [if_pos (show (5 : Int32) < nI (o + 1) from nI_lt (a := 5) (b := o + 1) (by omega) (by omega)), decide_eq_false c5]
theorem q_i2c {b : Nat} (hb : b < 256) : (((nI b).toUInt32 % 65536).toInt32) = nI b := by
  have key : ∀ b : Fin 256, (((nI b.1).toUInt32 % 65536).toInt32) = nI b.1 := by decide +kernel
  exact key ⟨b, hb⟩
theorem q_begNo {s : Int32} {c p : List Int32} {o : Int32} (hu : u ≤ 1) (hb : ∃ b : Nat, b < 256 ∧ s = nI b) (h1 : ¬ m_nm u s) (h2 : ¬ m_dg s) (h3 : ¬ (s = 33)) (h4 : ¬ (s = 40)) : (t_sign u s (c, p, o, 0, true)).2 = false := by
  have e : s < 48 ∨ 57 < s := by
    by_cases q1 : s < 48
    · exact Or.inl q1
    · by_cases q2 : 57 < s
      · exact Or.inr q2
      · exact absurd ⟨Int32.not_lt.mp q1, Int32.not_lt.mp q2⟩ h2
  have ei : t_ix u ((s.toUInt32 % 65536).toInt32) = -1 := by
    obtain ⟨b, hb, rfl⟩ := hb
    rw [q_i2c hb]
    unfold t_ix
    rcases (show u = 0 ∨ u = 1 by omega) with rfl | rfl
    · rw [if_pos rfl, if_neg (fun q => h1 (Or.inl ⟨rfl, Or.inr (Or.inl q)⟩)), if_neg (fun q => h1 (Or.inl ⟨rfl, Or.inl q⟩)), if_neg (fun q => h1 (Or.inl ⟨rfl, Or.inr (Or.inr q)⟩))]
    · rw [if_neg (by omega), if_neg (fun q => h1 (Or.inr ⟨rfl, Or.inr (Or.inl q)⟩)), if_neg (fun q => h1 (Or.inr ⟨rfl, Or.inl q⟩)), if_neg (fun q => h1 (Or.inr ⟨rfl, Or.inr (Or.inr q)⟩))]
  show (t_begin u s c p o 0 true).2 = false
  unfold t_begin
  rw [if_neg h3, if_neg h4, if_pos e, ei]
  rfl
theorem q_stk_at {R : t_R} {a : Nat} (ha : a < P) (h : (t_sign u (T a) R).2 = false) : q_stk P u T R a := ⟨fun _ => h, fun q => absurd ha (by omega)⟩
end QR
end
/-! part 66.w3.sim2 -/
section
/-! THE TWO READERS: every road (66.v2: by hand) -/
theorem q_Sim_C {P : Nat} {T : Nat → Int32} {u : Nat} (hu : u ≤ 1) (hP : P ≤ 60) (hb : ∀ i : Nat, i < P → ∃ b : Nat, b < 256 ∧ T i = nI b) : m_C P T u (q_Sim P T u) := by
  obtain ⟨S1, S2, S3, S4, S5, S6, S7, S8, S9, S10, S11, S12, S13, S14, S15, S16, S17, S18, S19⟩ := m_S_C P T u
  refine ⟨?_, ?_, ?_, ?_, ?_, ?_, ?_, ?_, ?_, ?_, ?_, ?_, ?_, ?_, ?_, ?_, ?_, ?_, ?_⟩
  · intro L a o l a' o' l' hL h
    have hb10 := m_bin10 hL
    have hL4 : L ≤ 4 := by rcases hL with rfl | rfl | rfl | rfl <;> omega
    refine q_mk1 hb10.1 (S1 L a o l a' o' l' hL h.1) (fun ha ho c p hp hr => ⟨fun q => (by cases q), fun _ => ?_⟩)
    exact (h.s1 hb10.2 ha ho c p hp (fun _ => q_lt_le (hr hL4) (q_nI_le (by omega) (by omega)))).2 rfl
  · intro L a o l a1 o1 l1 b a' o' l' hL h g
    have hb10 := m_bin10 hL
    have hL4 : L ≤ 4 := by rcases hL with rfl | rfl | rfl | rfl <;> omega
    refine q_mk1 hb10.1 (S2 L a o l a1 o1 l1 b a' o' l' hL h.1 g.1) (fun ha ho c p hp hr => ?_)
    obtain ⟨k1, k2, _, _, _, _, _, k7⟩ := h.1
    obtain ⟨e1, -⟩ := k7 rfl
    subst e1
    obtain ⟨t, R1, rfl, r1, A1⟩ := (h.s1 hb10.2 ha ho c p hp (fun _ => q_lt_le (hr hL4) (q_nI_le (by omega) (by omega)))).1 rfl
    have hg := g.s2 (k2 ha) ho R1 (t.map (q_enc u) ++ c) p (by omega) (hr hL4) (A1.down hL)
    refine ⟨fun q => ?_, fun q => ?_⟩
    · obtain ⟨t2, R2, e2, r2, A2⟩ := hg.1 q
      exact ⟨t2 ++ t, R2, by rw [e2, List.append_assoc], r1.tr r2, by rw [List.map_append, List.append_assoc]; exact A2⟩
    · obtain ⟨R2, r2, A2⟩ := hg.2 q
      exact ⟨R2, r1.tr r2, A2⟩
  · intro L a o l hL hs
    refine q_mk2 (S3 L a o l hL hs) (fun ha ho R0 c p hp hr A => ⟨fun _ => ⟨[], R0, rfl, q_run.rf, ?_⟩, fun q => (by cases q)⟩)
    obtain ⟨h1, h2, h3, h4, h5⟩ := A
    refine ⟨h1, h2, h3, fun L' hL' => ?_, h5⟩
    rcases Nat.eq_or_lt_of_le hL' with rfl | q
    · exact hs
    · exact h4 L' q
  · intro L a o l a' o' l' hL hs h
    have hb10 := m_bin10 hL
    have ha1 := m_sg_lt hs
    obtain ⟨e1, e2⟩ := q_rank_sg hs
    refine q_mk2 (S4 L a o l a' o' l' hL hs h.1) (fun ha ho R0 c p hp hr A => ⟨fun q => (by cases q), fun _ => ?_⟩)
    have es : t_sign u (T a) R0 = ((c, m_lk P T a :: p, nI o, 0, true), true) := by
      rw [← m_lk_T (T := T) ha1, q_goOp hL hs A.1, A.2.1, q_stl_stop hr]
    obtain ⟨R2, r2, A2⟩ := (h.s1 hb10.2 (by omega) ho c (m_lk P T a :: p) (by simp only [List.length_cons]; omega) (fun _ => by show t_rank (m_lk P T a) < _; rw [e1]; exact nI_lt (by omega) (by omega))).2 rfl
    exact ⟨R2, (q_run.one es).tr r2, A2⟩
  · intro L a o l a1 o1 l1 b a' o' l' hL hs h g
    have hb10 := m_bin10 hL
    have hL4 : L ≤ 4 := by rcases hL with rfl | rfl | rfl | rfl <;> omega
    have ha1 := m_sg_lt hs
    obtain ⟨e1, e2⟩ := q_rank_sg hs
    refine q_mk2 (S5 L a o l a1 o1 l1 b a' o' l' hL hs h.1 g.1) (fun ha ho R0 c p hp hr A => ?_)
    obtain ⟨k1, k2, _, _, _, _, _, k7⟩ := h.1
    obtain ⟨f1, -⟩ := k7 rfl
    subst f1
    have es : t_sign u (T a) R0 = ((c, m_lk P T a :: p, nI o1, 0, true), true) := by
      rw [← m_lk_T (T := T) ha1, q_goOp hL hs A.1, A.2.1, q_stl_stop hr]
    obtain ⟨t, R1, rfl, r1, A1⟩ := (h.s1 hb10.2 (by omega) ho c (m_lk P T a :: p) (by simp only [List.length_cons]; omega) (fun _ => by show t_rank (m_lk P T a) < _; rw [e1]; exact nI_lt (by omega) (by omega))).1 rfl
    have A2 := A1.down hL
    have A3 : q_A P T L (L + 1) R1 a1 (((3, m_lk P T a) :: t).map (q_enc u) ++ c) p (nI o1) := by
      obtain ⟨h1, h2, h3, h4, h5⟩ := A2
      refine ⟨h1, ?_, h3, h4, h5⟩
      rw [h2, q_pop (fun q => by rw [e1] at q; exact q_irr q) e2]
      rfl
    have hg := g.s2 (k2 (by omega)) ho R1 _ p (by omega) hr A3
    refine ⟨fun q => ?_, fun q => ?_⟩
    · obtain ⟨t2, R2, q2, r2, A4⟩ := hg.1 q
      exact ⟨t2 ++ ((3, m_lk P T a) :: t), R2, by rw [q2, List.append_assoc]; rfl, ((q_run.one es).tr r1).tr r2, by rw [List.map_append, List.append_assoc]; exact A4⟩
    · obtain ⟨R2, r2, A4⟩ := hg.2 q
      exact ⟨R2, ((q_run.one es).tr r1).tr r2, A4⟩
  · intro a o l a' o' l' h
    refine q_mk1 (by omega) (S6 a o l a' o' l' h.1) (fun ha ho c p hp hr => ⟨fun q => (by cases q), fun _ => ?_⟩)
    exact (h.s1 (by omega) ha ho c p hp (fun _ => q_lt_le (hr (by omega)) (q_nI_le (by omega) (by omega)))).2 rfl
  · intro a o l a1 o1 l1 h hc
    refine q_mk1 (by omega) (S7 a o l a1 o1 l1 h.1 hc) (fun ha ho c p hp hr => ⟨fun _ => ?_, fun q => (by cases q)⟩)
    obtain ⟨t, R1, e, r1, h1, h2, h3, h4, h5⟩ := (h.s1 (by omega) ha ho c p hp (fun _ => q_lt_le (hr (by omega)) (q_nI_le (by omega) (by omega)))).1 rfl
    refine ⟨t, R1, e, r1, h1, q_stl_le (q_nI_le (by omega) (by omega)) h2, h3, fun L' hL' => ?_, fun _ q => absurd q hc⟩
    rcases Nat.eq_or_lt_of_le hL' with rfl | q
    · exact q_sg_no (Or.inl rfl)
    · exact h4 L' q
  · intro a o l a1 o1 l1 a' o' l' h hc g
    have ha1 := m_cp_lt hc
    obtain ⟨e1, e2⟩ := q_rank_cp hc
    refine q_mk1 (by omega) (S8 a o l a1 o1 l1 a' o' l' h.1 hc g.1) (fun ha ho c p hp hr => ⟨fun q => (by cases q), fun _ => ?_⟩)
    obtain ⟨k1, k2, _, _, _, _, _, k7⟩ := h.1
    obtain ⟨f1, -⟩ := k7 rfl
    subst f1
    obtain ⟨t, R1, e, r1, h1, h2, h3, h4, h5⟩ := (h.s1 (by omega) ha ho c p hp (fun _ => q_lt_le (hr (by omega)) (q_nI_le (by omega) (by omega)))).1 rfl
    have h2 : t_stl 4 R1.1 R1.2.1 R1.2.2.1 = t_stl 4 (t.map (q_enc u) ++ c) p (nI o1) := h2
    have hr3 : t_rank (p.headD 0) < 3 := hr (by omega)
    have es : t_sign u (T a1) R1 = ((t.map (q_enc u) ++ c, m_lk P T a1 :: p, nI o1, 0, true), true) := by
      rw [← m_lk_T (T := T) ha1, q_goCp hc h1, h2, q_stl_stop (q_lt_le hr3 (by decide)), if_neg (fun q => by rw [q] at hr3; exact q_irr hr3)]
    obtain ⟨R2, r2, A2⟩ := (g.s1 (by omega) (by omega) ho (t.map (q_enc u) ++ c) (m_lk P T a1 :: p) (by simp only [List.length_cons]; omega) (fun _ => by show t_rank (m_lk P T a1) < _; rw [e1]; decide)).2 rfl
    exact ⟨R2, (r1.tr (q_run.one es)).tr r2, A2⟩
  · intro a o l a1 o1 l1 a2 o2 l2 h hc g
    have ha1 := m_cp_lt hc
    obtain ⟨e1, e2⟩ := q_rank_cp hc
    refine q_mk1 (by omega) (S9 a o l a1 o1 l1 a2 o2 l2 h.1 hc g.1) (fun ha ho c p hp hr => ⟨fun _ => ?_, fun q => (by cases q)⟩)
    obtain ⟨k1, k2, _, _, _, _, _, k7⟩ := h.1
    obtain ⟨f1, -⟩ := k7 rfl
    subst f1
    obtain ⟨t, R1, rfl, r1, h1, h2, h3, h4, h5⟩ := (h.s1 (by omega) ha ho c p hp (fun _ => q_lt_le (hr (by omega)) (q_nI_le (by omega) (by omega)))).1 rfl
    have h2 : t_stl 4 R1.1 R1.2.1 R1.2.2.1 = t_stl 4 (t.map (q_enc u) ++ c) p (nI o1) := h2
    have hr3 : t_rank (p.headD 0) < 3 := hr (by omega)
    have es : t_sign u (T a1) R1 = ((t.map (q_enc u) ++ c, m_lk P T a1 :: p, nI o1, 0, true), true) := by
      rw [← m_lk_T (T := T) ha1, q_goCp hc h1, h2, q_stl_stop (q_lt_le hr3 (by decide)), if_neg (fun q => by rw [q] at hr3; exact q_irr hr3)]
    obtain ⟨t2, R2, rfl, r2, j1, j2, j3, j4, j5⟩ := (g.s1 (by omega) (by omega) ho (t.map (q_enc u) ++ c) (m_lk P T a1 :: p) (by simp only [List.length_cons]; omega) (fun _ => by show t_rank (m_lk P T a1) < _; rw [e1]; decide)).1 rfl
    have j2 : t_stl 4 R2.1 R2.2.1 R2.2.2.1 = t_stl 4 (t2.map (q_enc u) ++ (t.map (q_enc u) ++ c)) (m_lk P T a1 :: p) (nI o1) := j2
    have hs4 : t_rank ((m_lk P T a1 :: p).headD 0) < 4 := by show t_rank (m_lk P T a1) < 4; rw [e1]; decide
    refine ⟨(3, m_lk P T a1) :: (t2 ++ t), R2, by rw [List.cons_append, List.append_assoc], (r1.tr (q_run.one es)).tr r2, j1, ?_, j3, fun L' hL' => ?_, fun _ _ => ?_⟩
    · have j6 : t_stl (nI (2 + 1)) R2.1 R2.2.1 R2.2.2.1 = t_stl (nI (2 + 1)) (t2.map (q_enc u) ++ (t.map (q_enc u) ++ c)) (m_lk P T a1 :: p) (nI o1) := q_stl_le (r := 4) (show nI 3 ≤ 4 by decide) j2
      rw [j6, q_pop (fun q => by rw [e1] at q; exact q_irr (show (3 : Int32) < 3 from q)) e2, List.map_cons, List.map_append, List.cons_append, List.append_assoc]
      rfl
    · rcases Nat.eq_or_lt_of_le hL' with rfl | q
      · exact q_sg_no (Or.inl rfl)
      · exact j4 L' q
    · rw [j2, q_stl_stop hs4]
      exact e1
  · intro a o l hn
    have ha1 := m_nm_lt hn
    refine q_mk1 (by omega) (S10 a o l hn) (fun ha ho c p hp hr => ⟨fun _ => ?_, fun q => (by cases q)⟩)
    refine ⟨[(1, m_lk P T a)], ((-1 - t_ix u (m_lk P T a)) :: c, p, nI o, 0, false), rfl, q_run.one (by rw [← m_lk_T (T := T) ha1]; exact q_begNm hn), rfl, rfl, fun _ => Or.inl (by show (0 : Int32) < 1; decide), fun L' hL' => q_sg_no (Or.inr hL'), fun q => absurd q (by omega)⟩
  · intro a o l hn hd
    have ha1 := m_dg_lt hd
    refine q_mk1 (by omega) (S11 a o l hn hd) (fun ha ho c p hp hr => ⟨fun _ => ?_, fun q => (by cases q)⟩)
    have e0 : m_dig P T 4 a 0 = m_dig P T 3 (a + 1) (m_lk P T a - 48) := by
      refine (if_pos hd).trans ?_
      rw [show (10 : Int32) * 0 + m_lk P T a - 48 = m_lk P T a - 48 by rw [show (10 : Int32) * 0 = 0 from rfl, Int32.zero_add]]
    obtain ⟨k', g1, g2, g3, g4⟩ := q_dig (P := P) (T := T) (u := u) (c := c) (p := p) (o := nI o) 3 1 (a + 1) (m_lk P T a - 48) (by omega) (by omega)
    rw [← e0] at g3 g4
    refine ⟨[(0, (m_dig P T 4 a 0).1)], ((m_dig P T 4 a 0).1 :: c, p, nI o, nI k', false), rfl, (q_run.one (by rw [← m_lk_T (T := T) ha1]; exact q_begDg hd)).tr g4, rfl, rfl, fun q => Or.inr ?_, fun L' hL' => q_sg_no (Or.inr hL'), fun q => absurd q (by omega)⟩
    have := g3 q
    subst this
    show ¬ (nI 4 < 4)
    decide
  · intro a o l a1 o1 l1 hc ho5 h
    have ha1 := m_lk_is hc (by decide)
    refine q_mk1 (by omega) (S12 a o l a1 o1 l1 hc ho5 h.1) (fun ha ho c p hp hr => ⟨fun _ => ?_, fun q => (by cases q)⟩)
    have es : t_sign u (T a) (c, p, nI o, 0, true) = ((c, 33 :: p, nI (o + 1), 0, true), true) := by
      rw [← m_lk_T (T := T) ha1, hc, q_begOpen (Or.inl rfl) ho, decide_eq_true ho5]
    obtain ⟨t, R1, rfl, r1, h1, h2, h3, h4, h5⟩ := (h.s1 (by omega) (by omega) (by omega) c (33 :: p) (by simp only [List.length_cons]; omega) (fun q => absurd q (by omega))).1 rfl
    refine ⟨(2, 0) :: t, R1, rfl, (q_run.one es).tr r1, h1, ?_, h3, h4, h5⟩
    rw [h2]
    have e6 : ¬ (t_rank 33 < nI (5 + 1)) := by decide
    show (if t_rank 33 < nI (5 + 1) then _ else _) = _
    rw [if_neg e6, if_pos rfl, nI_pred]
    rfl
  · intro a o l a' o' l' hc ho5 h
    have ha1 := m_lk_is hc (by decide)
    refine q_mk1 (by omega) (S13 a o l a' o' l' hc ho5 h.1) (fun ha ho c p hp hr => ⟨fun q => (by cases q), fun _ => ?_⟩)
    have es : t_sign u (T a) (c, p, nI o, 0, true) = ((c, 33 :: p, nI (o + 1), 0, true), true) := by
      rw [← m_lk_T (T := T) ha1, hc, q_begOpen (Or.inl rfl) ho, decide_eq_true ho5]
    obtain ⟨R1, r1, A1⟩ := (h.s1 (by omega) (by omega) (by omega) c (33 :: p) (by simp only [List.length_cons]; omega) (fun q => absurd q (by omega))).2 rfl
    exact ⟨R1, (q_run.one es).tr r1, A1⟩
  · intro a o l hc ho5
    have ha1 := m_lk_is hc (by decide)
    refine q_mk1 (by omega) (S14 a o l hc ho5) (fun ha ho c p hp hr => ⟨fun q => (by cases q), fun _ => ⟨_, q_run.rf, q_stk_at ha1 ?_⟩⟩)
    rw [← m_lk_T (T := T) ha1, hc, q_begOpen (Or.inl rfl) ho]
    exact decide_eq_false ho5
  · intro a o l a1 o1 l1 hc ho5 h hk
    have ha1 := m_lk_is hc (by decide)
    have ha2 := m_lk_is hk (by decide)
    refine q_mk1 (by omega) (S15 a o l a1 o1 l1 hc ho5 h.1 hk) (fun ha ho c p hp hr => ⟨fun _ => ?_, fun q => (by cases q)⟩)
    have es : t_sign u (T a) (c, p, nI o, 0, true) = ((c, 40 :: p, nI (o + 1), 0, true), true) := by
      rw [← m_lk_T (T := T) ha1, hc, q_begOpen (Or.inr rfl) ho, decide_eq_true ho5]
    obtain ⟨t, R1, e, r1, A1⟩ := (h.s1 (by omega) (by omega) (by omega) c (40 :: p) (by simp only [List.length_cons]; omega) (fun _ => show t_rank 40 < nI (0 + 1) by decide)).1 rfl
    have ec : t_sign u (T a1) R1 = ((t.map (q_enc u) ++ c, p, nI o, 0, false), true) := by
      rw [← m_lk_T (T := T) ha2, hk, q_close A1 (by omega), nI_pred]
    exact ⟨t, _, e, ((q_run.one es).tr r1).tr (q_run.one ec), rfl, rfl, fun _ => Or.inl (by show (0 : Int32) < 1; decide), fun L' hL' => q_sg_no (Or.inr hL'), fun q => absurd q (by omega)⟩
  · intro a o l a1 o1 l1 hc ho5 h hk
    have ha1 := m_lk_is hc (by decide)
    refine q_mk1 (by omega) (S16 a o l a1 o1 l1 hc ho5 h.1 hk) (fun ha ho c p hp hr => ⟨fun q => (by cases q), fun _ => ?_⟩)
    have es : t_sign u (T a) (c, p, nI o, 0, true) = ((c, 40 :: p, nI (o + 1), 0, true), true) := by
      rw [← m_lk_T (T := T) ha1, hc, q_begOpen (Or.inr rfl) ho, decide_eq_true ho5]
    obtain ⟨t, R1, e, r1, A1⟩ := (h.s1 (by omega) (by omega) (by omega) c (40 :: p) (by simp only [List.length_cons]; omega) (fun _ => show t_rank 40 < nI (0 + 1) by decide)).1 rfl
    refine ⟨R1, (q_run.one es).tr r1, fun q => ?_, fun _ => Or.inr ?_⟩
    · exact q_A_stk A1 q (by rw [m_lk_T q] at hk; exact hk)
    · have e1 : t_stl 1 R1.1 R1.2.1 R1.2.2.1 = (t.map (q_enc u) ++ c, 40 :: p, nI (o + 1)) := A1.2.1.trans (q_stl_stop (r := 1) (show t_rank 40 < 1 by decide))
      rw [e1]
      exact nI_nle (n := (40 :: p).length) (by simp) (by simp only [List.length_cons]; omega)
  · intro a o l a' o' l' hc ho5 h
    have ha1 := m_lk_is hc (by decide)
    refine q_mk1 (by omega) (S17 a o l a' o' l' hc ho5 h.1) (fun ha ho c p hp hr => ⟨fun q => (by cases q), fun _ => ?_⟩)
    have es : t_sign u (T a) (c, p, nI o, 0, true) = ((c, 40 :: p, nI (o + 1), 0, true), true) := by
      rw [← m_lk_T (T := T) ha1, hc, q_begOpen (Or.inr rfl) ho, decide_eq_true ho5]
    obtain ⟨R1, r1, A1⟩ := (h.s1 (by omega) (by omega) (by omega) c (40 :: p) (by simp only [List.length_cons]; omega) (fun _ => show t_rank 40 < nI (0 + 1) by decide)).2 rfl
    exact ⟨R1, (q_run.one es).tr r1, A1⟩
  · intro a o l hc ho5
    have ha1 := m_lk_is hc (by decide)
    refine q_mk1 (by omega) (S18 a o l hc ho5) (fun ha ho c p hp hr => ⟨fun q => (by cases q), fun _ => ⟨_, q_run.rf, q_stk_at ha1 ?_⟩⟩)
    rw [← m_lk_T (T := T) ha1, hc, q_begOpen (Or.inr rfl) ho]
    exact decide_eq_false ho5
  · intro a o l h1 h2 h3 h4
    refine q_mk1 (by omega) (S19 a o l h1 h2 h3 h4) (fun ha ho c p hp hr => ⟨fun q => (by cases q), fun _ => ⟨_, q_run.rf, fun q => ?_, fun _ => Or.inl rfl⟩⟩)
    rw [m_lk_T q] at h1 h2 h3 h4
    exact q_begNo hu (hb a q) h1 h2 h3 h4
/-- BOTH READERS SAY THE SAME -/
theorem q_text {P : Nat} {T : Nat → Int32} {u : Nat} (hu : u ≤ 1) (hP : P ≤ 60) (hb : ∀ i : Nat, i < P → ∃ b : Nat, b < 256 ∧ T i = nI b) {bb : Bool} {a' o' : Nat} {l' : m_L} (h : m_R P T u 0 0 0 [] bb a' o' l') :
    (t_end P (t_run u T P 0 ([], [], 0, 0, true)) = if bb = true ∧ a' = P then -1 else nI a') ∧ ((bb = true ∧ a' = P) → (t_fin (t_run u T P 0 ([], [], 0, 0, true))).1 = l'.map (q_enc u)) := by
  have hS := h.S
  have hQ : q_Sim P T u 0 0 0 [] bb a' o' l' := h _ (q_Sim_C hu hP hb)
  have haP : a' ≤ P := hS.2.1 (Nat.zero_le P)
  have g := hQ.s1 (by omega) (Nat.zero_le P) (Nat.zero_le 5) [] [] (Nat.le_refl 0) (fun _ => by decide)
  cases bb with
  | true =>
    obtain ⟨t, R1, e, ⟨k, ek, r1⟩, A1⟩ := g.1 rfl
    rw [List.append_nil] at e
    subst e
    obtain rfl : k = a' := by omega
    have hr := r1 (P - k)
    rw [show k + (P - k) = P by omega] at hr
    have hr : t_run u T P 0 ([], [], 0, 0, true) = t_run u T (P - k) k R1 := hr
    have e1 : t_stl 1 R1.1 R1.2.1 R1.2.2.1 = (l'.map (q_enc u) ++ [], [], nI 0) := A1.2.1.trans (q_stl_stop (r := 1) (by decide))
    rcases Nat.eq_or_lt_of_le haP with c | c
    · rw [if_pos ⟨rfl, c⟩, hr, show P - k = 0 by omega]
      refine ⟨?_, fun _ => ?_⟩
      · show (if R1.2.2.2.2 = true then nI P else if nI (t_stl 1 R1.1 R1.2.1 R1.2.2.1).2.1.length ≤ 0 then -1 else nI P) = -1
        rw [e1, A1.1]
        rfl
      · show (t_stl 1 R1.1 R1.2.1 R1.2.2.1).1 = _
        rw [e1, List.append_nil]
    · rw [if_neg (fun q => by omega), hr]
      obtain ⟨m, hm⟩ : ∃ m, P - k = m + 1 := ⟨P - k - 1, by omega⟩
      rw [hm]
      have es : (t_sign u (T k) R1).2 = false := by
        by_cases c41 : T k = 41
        · rw [c41, q_goClose A1.1]
          unfold t_close
          rw [e1]
          rfl
        · exact q_A_stk A1 c c41
      rw [t_run_n rfl (by rw [es]; decide)]
      exact ⟨rfl, fun q => by omega⟩
  | false =>
    obtain ⟨R1, ⟨k, ek, r1⟩, s1, s2⟩ := g.2 rfl
    obtain rfl : k = a' := by omega
    have hr := r1 (P - k)
    rw [show k + (P - k) = P by omega] at hr
    have hr : t_run u T P 0 ([], [], 0, 0, true) = t_run u T (P - k) k R1 := hr
    rw [if_neg (fun q => by cases q.1), hr]
    refine ⟨?_, fun q => by cases q.1⟩
    rcases Nat.eq_or_lt_of_le haP with c | c
    · rw [show P - k = 0 by omega]
      show (if R1.2.2.2.2 = true then nI P else if nI (t_stl 1 R1.1 R1.2.1 R1.2.2.1).2.1.length ≤ 0 then -1 else nI P) = nI k
      rcases s2 (by omega) with q | q
      · rw [if_pos q, c]
      · rw [if_neg q, ite_self, c]
    · obtain ⟨m, hm⟩ : ∃ m, P - k = m + 1 := ⟨P - k - 1, by omega⟩
      rw [hm, t_run_n rfl (by rw [s1 c]; decide)]
      rfl
end
