/-! the reference's text; both beside each other (66.t6: mtext3.py) -/
theorem m_cp_loop {Z : Nat → Int32} {F : Nat → Nat → Int32} {f : Nat → Int32} {L u b : Nat} {gv : Int32} {d : Nat} {Q : Option Value → px_H → Prop} (hL : L ≤ 60) (hZ : Z 3 = nI L) (hb : b ≤ 161) : ∀ (m k : Nat), k + m = 2 * L → px_PW d pc_137 Q 138 [some (.ref 1000), some (.int (nI u)), some (.int gv), some (.int (nI b)), some (.int (nI (2 * L)))] [] ([], px_MH Z (va_up F 0 (zz_pl (F 5) f (b + 1) (2 * L)))) → px_PW d pc_137 Q 103 [some (.ref 1000), some (.int (nI u)), some (.int gv), some (.int (nI b)), some (.int (nI k))] [] ([], px_MH Z (va_up F 0 (zz_pl (F 5) f (b + 1) k)))
  | m, k, hk, H => by
    refine px_PW.steps kt_137.2 5 rfl ?_
    dsimp only
    rw [hZ, show (2 : Int32) * nI L = nI (2 * L) from zz_mul 2 L]
    refine px_PW.steps kt_137.2 1 rfl ?_
    refine px_PW.br (fun c0 => ?_) (fun c0 => ?_)
    · have c0 : nI (2 * L) ≤ nI k := of_decide_eq_true c0
      have c1 := (nI_leI (a := 2 * L) (b := k) (by omega) (by omega)).mp c0
      obtain rfl : m = 0 := by omega
      obtain rfl : k = 2 * L := by omega
      exact H
    · have c0 : ¬ (nI (2 * L) ≤ nI k) := of_decide_eq_false c0
      have c1 : k < 2 * L := Nat.lt_of_not_le (fun q => c0 ((nI_leI (a := 2 * L) (b := k) (by omega) (by omega)).mpr q))
      obtain ⟨m2, rfl⟩ : ∃ m2, m = m2 + 1 := ⟨m - 1, by omega⟩
      refine px_PW.steps kt_137.2 10 rfl ?_
      refine px_PW.aldN kt_137.2 rfl rfl (n := k) rfl (by omega) ?_
      refine ms_0 kt_137.2 rfl (n := b + 1 + k) (show nI b + 1 + nI k = nI (b + 1 + k) by rw [nI_1, nI_add]) (by omega) ?_
      refine px_PW.steps kt_137.2 2 rfl ?_
      have g := m_cp_loop (Z := Z) (F := F) (f := f) (u := u) (gv := gv) (d := d) (Q := Q) hL hZ hb m2 (k + 1) (by omega) H
      rw [nI_succ k] at g
      have e : (va_up F 0 (zz_pl (F 5) f (b + 1) (k + 1))) = va_up (va_up F 0 (zz_pl (F 5) f (b + 1) k)) 0 (upd (va_up F 0 (zz_pl (F 5) f (b + 1) k) 0) (b + 1 + k) (F 5 k)) := by rw [px_up_up, px_up_self, zz_pl_s]
      rw [e] at g
      exact g
theorem kc_mtext0 {Z : Nat → Int32} {F : Nat → Nat → Int32} {P : Nat} {T : Nat → Int32} (hP : P ≤ 60) (hN : F 0 8 = nI P) (hT : ∀ j : Nat, j < P → F 0 (286 + j) = T j) : px_PM 39 137 [.ref 1000, .int 0] ([], px_MH Z F) (fun r h' => ∃ (bb : Bool) (a' o' : Nat) (l' : m_L), m_R P T 0 0 0 0 [] bb a' o' l' ∧ r = some (.int (if bb = true ∧ a' = P then 1 else -10 - nI a')) ∧ ∃ (Z' : Nat → Int32) (F' : Nat → Nat → Int32), h' = ([], px_MH Z' F') ∧ (∀ i : Nat, ¬ (1 ≤ i ∧ i ≤ 4) → Z' i = Z i) ∧ (∀ q : Nat, ¬ (q = 0 ∨ q = 5) → F' q = F q) ∧ (¬ (bb = true ∧ a' = P) → F' 0 = upd (F 0) 8 0) ∧ ((bb = true ∧ a' = P) → ∃ g : Nat → Int32, m_st g l' ∧ F' 0 = zz_pl g (upd (upd (F 0) 8 0) 36 (nI l'.length)) 37 (2 * l'.length))) := by
  refine px_PM.start (nL := 5) (code := pc_137) rfl rfl ?_
  refine px_PW.steps kt_137.2 3 rfl ?_
  refine px_PW.callS kt_137.2 rfl rfl rfl (cm_117 _ _ _ _) (by decide) (fun v h1 q => ?_)
  obtain ⟨rfl, rfl⟩ := q
  rw [if_pos (by decide)]
  refine px_PW.steps kt_137.2 1 rfl ?_
  refine px_PW.br (fun _ => ?_) (fun c0 => absurd c0 (by decide))
  refine px_PW.steps kt_137.2 2 rfl ?_
  refine mo_4 kt_137.2 rfl ?_
  refine px_PW.steps kt_137.2 2 rfl ?_
  refine mo_1 kt_137.2 rfl ?_
  refine px_PW.steps kt_137.2 2 rfl ?_
  refine mo_2 kt_137.2 rfl ?_
  refine px_PW.steps kt_137.2 2 rfl ?_
  refine mo_3 kt_137.2 rfl ?_
  refine px_PW.steps kt_137.2 1 rfl ?_
  have hr0 : m_rep P T 0 (upd (upd (upd (upd Z 4 0) 1 0) 2 0) 3 0) F 0 0 [] := ⟨⟨hN, hP, hT⟩, ⟨Nat.zero_le _, by omega, Nat.le_refl 0, by omega⟩, by rw [px_upd_ne _ _ (by omega), px_upd_ne _ _ (by omega), px_upd_self]; rfl, by rw [px_upd_ne _ _ (by omega), px_upd_self]; rfl, px_upd_self _ _ _, by rw [px_upd_ne _ _ (by omega), px_upd_ne _ _ (by omega), px_upd_ne _ _ (by omega), px_upd_self]; rfl, trivial⟩
  refine px_PW.callV kt_137.2 rfl rfl rfl rfl (mk_whole hr0) (Nat.le_refl 38) (fun v h1 q => ?_)
  obtain ⟨bb, a1, o1, l1, Z1, F1, rfl, rfl, R1, r1, s1⟩ := q
  have hZs : ∀ i : Nat, ¬ (1 ≤ i ∧ i ≤ 4) → Z1 i = Z i := fun i hi => by rw [s1.1 i (by omega), px_upd_ne _ _ (by omega), px_upd_ne _ _ (by omega), px_upd_ne _ _ (by omega), px_upd_ne _ _ (by omega)]
  have hF0 : F1 0 = F 0 := s1.2 0 (by omega)
  have hF8 : F1 0 8 = nI P := by rw [hF0]; exact hN
  have h1 : Z1 1 = nI a1 := r1.2.2.1
  have h3 : Z1 3 = nI l1.length := r1.2.2.2.2.1
  have hl60 : l1.length ≤ 60 := Nat.le_trans r1.2.1.2.2.1 (Nat.le_trans r1.2.1.1 hP)
  have ha60 : a1 ≤ 60 := Nat.le_trans r1.2.1.1 hP
  have bad : ∀ (gd : ¬ (bb = true ∧ a1 = P)), px_PW 38 pc_137 (fun r h' => ∃ (bb : Bool) (a' o' : Nat) (l' : m_L), m_R P T 0 0 0 0 [] bb a' o' l' ∧ r = some (.int (if bb = true ∧ a' = P then 1 else -10 - nI a')) ∧ ∃ (Z' : Nat → Int32) (F' : Nat → Nat → Int32), h' = ([], px_MH Z' F') ∧ (∀ i : Nat, ¬ (1 ≤ i ∧ i ≤ 4) → Z' i = Z i) ∧ (∀ q : Nat, ¬ (q = 0 ∨ q = 5) → F' q = F q) ∧ (¬ (bb = true ∧ a' = P) → F' 0 = upd (F 0) 8 0) ∧ ((bb = true ∧ a' = P) → ∃ g : Nat → Int32, m_st g l' ∧ F' 0 = zz_pl g (upd (upd (F 0) 8 0) 36 (nI l'.length)) 37 (2 * l'.length))) 60 [some (.ref 1000), some (.int 0), none, none, none] [] ([], px_MH Z1 F1) := by
    intro gd
    refine px_PW.steps kt_137.2 6 rfl ?_
    refine ms_0 kt_137.2 rfl (n := 8) rfl (by omega) ?_
    refine px_PW.steps kt_137.2 2 rfl ?_
    refine px_PW.br (fun c0 => absurd c0 (by decide)) (fun _ => ?_)
    refine px_PW.steps kt_137.2 4 rfl ?_
    refine px_PW.ret kt_137.2 rfl rfl ?_
    exact ⟨bb, a1, o1, l1, R1, by rw [if_neg gd, ← h1], Z1, _, rfl, hZs, fun q hq => by rw [px_up_ne _ _ (by omega)]; exact s1.2 q (by omega), fun _ => by rw [px_up_self, hF0], fun q => absurd q gd⟩
  refine px_PW.steps kt_137.2 1 rfl ?_
  refine px_PW.br (fun c0 => ?_) (fun c0 => ?_)
  · have c0 : ¬ (bb = true) := px_b1z (of_decide_eq_true c0)
    exact bad (fun q => c0 q.1)
  · have c0 : bb = true := px_b1n (of_decide_eq_false c0)
    refine px_PW.steps kt_137.2 6 rfl ?_
    rw [h1, show F1 0 (Int32.toNatClampNeg 8) = nI P from hF8]
    refine px_PW.steps kt_137.2 1 rfl ?_
    refine px_PW.br (fun c1 => ?_) (fun c1 => ?_)
    · have c1 : ¬ (nI a1 = nI P) := of_decide_eq_false (px_nt c1)
      exact bad (fun q => c1 (by rw [q.2]))
    · have c1 : nI a1 = nI P := of_decide_eq_true (px_nf c1)
      have c2 : a1 = P := (nI_eq (by omega) (by omega)).mp c1
      have gd : bb = true ∧ a1 = P := ⟨c0, c2⟩
      refine px_PW.steps kt_137.2 7 rfl ?_
      refine ms_0 kt_137.2 rfl (n := 8) rfl (by omega) ?_
      refine px_PW.steps kt_137.2 2 rfl ?_
      refine px_PW.br (fun _ => ?_) (fun c0 => absurd c0 (by decide))
      refine px_PW.steps kt_137.2 11 rfl ?_
      refine ms_0 kt_137.2 rfl (n := 36) rfl (by omega) ?_
      refine px_PW.steps kt_137.2 2 rfl ?_
      rw [px_up_up, px_up_self, h3]
      have g := m_cp_loop (Z := Z1) (F := va_up F1 0 (F1 0)) (f := upd (upd (F1 0) 8 0) 36 (nI l1.length)) (L := l1.length) (u := 0) (b := 36) (gv := 1) (d := 38) (Q := (fun r h' => ∃ (bb : Bool) (a' o' : Nat) (l' : m_L), m_R P T 0 0 0 0 [] bb a' o' l' ∧ r = some (.int (if bb = true ∧ a' = P then 1 else -10 - nI a')) ∧ ∃ (Z' : Nat → Int32) (F' : Nat → Nat → Int32), h' = ([], px_MH Z' F') ∧ (∀ i : Nat, ¬ (1 ≤ i ∧ i ≤ 4) → Z' i = Z i) ∧ (∀ q : Nat, ¬ (q = 0 ∨ q = 5) → F' q = F q) ∧ (¬ (bb = true ∧ a' = P) → F' 0 = upd (F 0) 8 0) ∧ ((bb = true ∧ a' = P) → ∃ g : Nat → Int32, m_st g l' ∧ F' 0 = zz_pl g (upd (upd (F 0) 8 0) 36 (nI l'.length)) 37 (2 * l'.length)))) hl60 h3 (by omega) (2 * l1.length) 0 (by omega)
      rw [zz_pl_0, px_up_up] at g
      refine g ?_
      refine px_PW.steps kt_137.2 1 rfl ?_
      refine px_PW.ret kt_137.2 rfl rfl ?_
      refine ⟨bb, a1, o1, l1, R1, by rw [if_pos gd], Z1, _, rfl, hZs, fun q hq => ?_, fun q => absurd gd q, fun _ => ⟨F1 5, r1.2.2.2.2.2.2, ?_⟩⟩
      · rw [px_up_ne _ _ (by omega)]; exact s1.2 q (by omega)
      · first | rw [px_up_self, px_up_ne _ _ (by omega), hF0] | rw [px_up_self, hF0]
theorem kc_mtext1 {Z : Nat → Int32} {F : Nat → Nat → Int32} {P : Nat} {T : Nat → Int32} (hP : P ≤ 60) (hN : F 0 8 = nI P) (hT : ∀ j : Nat, j < P → F 0 (286 + j) = T j) : px_PM 39 137 [.ref 1000, .int 1] ([], px_MH Z F) (fun r h' => ∃ (bb : Bool) (a' o' : Nat) (l' : m_L), m_R P T 1 0 0 0 [] bb a' o' l' ∧ r = some (.int (if bb = true ∧ a' = P then 1 else -10 - nI a')) ∧ ∃ (Z' : Nat → Int32) (F' : Nat → Nat → Int32), h' = ([], px_MH Z' F') ∧ (∀ i : Nat, ¬ (1 ≤ i ∧ i ≤ 4) → Z' i = Z i) ∧ (∀ q : Nat, ¬ (q = 0 ∨ q = 5) → F' q = F q) ∧ (¬ (bb = true ∧ a' = P) → F' 0 = upd (F 0) 8 0) ∧ ((bb = true ∧ a' = P) → ∃ g : Nat → Int32, m_st g l' ∧ F' 0 = zz_pl g (upd (upd (F 0) 8 0) 161 (nI l'.length)) 162 (2 * l'.length))) := by
  refine px_PM.start (nL := 5) (code := pc_137) rfl rfl ?_
  refine px_PW.steps kt_137.2 3 rfl ?_
  refine px_PW.callS kt_137.2 rfl rfl rfl (cm_117 _ _ _ _) (by decide) (fun v h1 q => ?_)
  obtain ⟨rfl, rfl⟩ := q
  rw [if_pos (by decide)]
  refine px_PW.steps kt_137.2 1 rfl ?_
  refine px_PW.br (fun _ => ?_) (fun c0 => absurd c0 (by decide))
  refine px_PW.steps kt_137.2 2 rfl ?_
  refine mo_4 kt_137.2 rfl ?_
  refine px_PW.steps kt_137.2 2 rfl ?_
  refine mo_1 kt_137.2 rfl ?_
  refine px_PW.steps kt_137.2 2 rfl ?_
  refine mo_2 kt_137.2 rfl ?_
  refine px_PW.steps kt_137.2 2 rfl ?_
  refine mo_3 kt_137.2 rfl ?_
  refine px_PW.steps kt_137.2 1 rfl ?_
  have hr0 : m_rep P T 1 (upd (upd (upd (upd Z 4 1) 1 0) 2 0) 3 0) F 0 0 [] := ⟨⟨hN, hP, hT⟩, ⟨Nat.zero_le _, by omega, Nat.le_refl 0, by omega⟩, by rw [px_upd_ne _ _ (by omega), px_upd_ne _ _ (by omega), px_upd_self]; rfl, by rw [px_upd_ne _ _ (by omega), px_upd_self]; rfl, px_upd_self _ _ _, by rw [px_upd_ne _ _ (by omega), px_upd_ne _ _ (by omega), px_upd_ne _ _ (by omega), px_upd_self]; rfl, trivial⟩
  refine px_PW.callV kt_137.2 rfl rfl rfl rfl (mk_whole hr0) (Nat.le_refl 38) (fun v h1 q => ?_)
  obtain ⟨bb, a1, o1, l1, Z1, F1, rfl, rfl, R1, r1, s1⟩ := q
  have hZs : ∀ i : Nat, ¬ (1 ≤ i ∧ i ≤ 4) → Z1 i = Z i := fun i hi => by rw [s1.1 i (by omega), px_upd_ne _ _ (by omega), px_upd_ne _ _ (by omega), px_upd_ne _ _ (by omega), px_upd_ne _ _ (by omega)]
  have hF0 : F1 0 = F 0 := s1.2 0 (by omega)
  have hF8 : F1 0 8 = nI P := by rw [hF0]; exact hN
  have h1 : Z1 1 = nI a1 := r1.2.2.1
  have h3 : Z1 3 = nI l1.length := r1.2.2.2.2.1
  have hl60 : l1.length ≤ 60 := Nat.le_trans r1.2.1.2.2.1 (Nat.le_trans r1.2.1.1 hP)
  have ha60 : a1 ≤ 60 := Nat.le_trans r1.2.1.1 hP
  have bad : ∀ (gd : ¬ (bb = true ∧ a1 = P)), px_PW 38 pc_137 (fun r h' => ∃ (bb : Bool) (a' o' : Nat) (l' : m_L), m_R P T 1 0 0 0 [] bb a' o' l' ∧ r = some (.int (if bb = true ∧ a' = P then 1 else -10 - nI a')) ∧ ∃ (Z' : Nat → Int32) (F' : Nat → Nat → Int32), h' = ([], px_MH Z' F') ∧ (∀ i : Nat, ¬ (1 ≤ i ∧ i ≤ 4) → Z' i = Z i) ∧ (∀ q : Nat, ¬ (q = 0 ∨ q = 5) → F' q = F q) ∧ (¬ (bb = true ∧ a' = P) → F' 0 = upd (F 0) 8 0) ∧ ((bb = true ∧ a' = P) → ∃ g : Nat → Int32, m_st g l' ∧ F' 0 = zz_pl g (upd (upd (F 0) 8 0) 161 (nI l'.length)) 162 (2 * l'.length))) 60 [some (.ref 1000), some (.int 1), none, none, none] [] ([], px_MH Z1 F1) := by
    intro gd
    refine px_PW.steps kt_137.2 6 rfl ?_
    refine ms_0 kt_137.2 rfl (n := 8) rfl (by omega) ?_
    refine px_PW.steps kt_137.2 2 rfl ?_
    refine px_PW.br (fun c0 => absurd c0 (by decide)) (fun _ => ?_)
    refine px_PW.steps kt_137.2 4 rfl ?_
    refine px_PW.ret kt_137.2 rfl rfl ?_
    exact ⟨bb, a1, o1, l1, R1, by rw [if_neg gd, ← h1], Z1, _, rfl, hZs, fun q hq => by rw [px_up_ne _ _ (by omega)]; exact s1.2 q (by omega), fun _ => by rw [px_up_self, hF0], fun q => absurd q gd⟩
  refine px_PW.steps kt_137.2 1 rfl ?_
  refine px_PW.br (fun c0 => ?_) (fun c0 => ?_)
  · have c0 : ¬ (bb = true) := px_b1z (of_decide_eq_true c0)
    exact bad (fun q => c0 q.1)
  · have c0 : bb = true := px_b1n (of_decide_eq_false c0)
    refine px_PW.steps kt_137.2 6 rfl ?_
    rw [h1, show F1 0 (Int32.toNatClampNeg 8) = nI P from hF8]
    refine px_PW.steps kt_137.2 1 rfl ?_
    refine px_PW.br (fun c1 => ?_) (fun c1 => ?_)
    · have c1 : ¬ (nI a1 = nI P) := of_decide_eq_false (px_nt c1)
      exact bad (fun q => c1 (by rw [q.2]))
    · have c1 : nI a1 = nI P := of_decide_eq_true (px_nf c1)
      have c2 : a1 = P := (nI_eq (by omega) (by omega)).mp c1
      have gd : bb = true ∧ a1 = P := ⟨c0, c2⟩
      refine px_PW.steps kt_137.2 7 rfl ?_
      refine ms_0 kt_137.2 rfl (n := 8) rfl (by omega) ?_
      refine px_PW.steps kt_137.2 2 rfl ?_
      refine px_PW.br (fun _ => ?_) (fun c0 => absurd c0 (by decide))
      refine px_PW.steps kt_137.2 11 rfl ?_
      refine ms_0 kt_137.2 rfl (n := 161) rfl (by omega) ?_
      refine px_PW.steps kt_137.2 2 rfl ?_
      rw [px_up_up, px_up_self, h3]
      have g := m_cp_loop (Z := Z1) (F := va_up F1 0 (F1 0)) (f := upd (upd (F1 0) 8 0) 161 (nI l1.length)) (L := l1.length) (u := 1) (b := 161) (gv := 1) (d := 38) (Q := (fun r h' => ∃ (bb : Bool) (a' o' : Nat) (l' : m_L), m_R P T 1 0 0 0 [] bb a' o' l' ∧ r = some (.int (if bb = true ∧ a' = P then 1 else -10 - nI a')) ∧ ∃ (Z' : Nat → Int32) (F' : Nat → Nat → Int32), h' = ([], px_MH Z' F') ∧ (∀ i : Nat, ¬ (1 ≤ i ∧ i ≤ 4) → Z' i = Z i) ∧ (∀ q : Nat, ¬ (q = 0 ∨ q = 5) → F' q = F q) ∧ (¬ (bb = true ∧ a' = P) → F' 0 = upd (F 0) 8 0) ∧ ((bb = true ∧ a' = P) → ∃ g : Nat → Int32, m_st g l' ∧ F' 0 = zz_pl g (upd (upd (F 0) 8 0) 161 (nI l'.length)) 162 (2 * l'.length)))) hl60 h3 (by omega) (2 * l1.length) 0 (by omega)
      rw [zz_pl_0, px_up_up] at g
      refine g ?_
      refine px_PW.steps kt_137.2 1 rfl ?_
      refine px_PW.ret kt_137.2 rfl rfl ?_
      refine ⟨bb, a1, o1, l1, R1, by rw [if_pos gd], Z1, _, rfl, hZs, fun q hq => ?_, fun q => absurd gd q, fun _ => ⟨F1 5, r1.2.2.2.2.2.2, ?_⟩⟩
      · rw [px_up_ne _ _ (by omega)]; exact s1.2 q (by omega)
      · first | rw [px_up_self, px_up_ne _ _ (by omega), hF0] | rw [px_up_self, hF0]
theorem kc_mtextB {Z : Nat → Int32} {F : Nat → Nat → Int32} (use : Int32) (hb : ¬ (use = 0 ∨ use = 1)) : px_PM 39 137 [.ref 1000, .int use] ([], px_MH Z F) (fun r h' => r = some (.int (-1000000001)) ∧ ∃ Z' F', px_sm Z F Z' F' ∧ h' = ([], px_MH Z' F')) := by
  refine px_PM.start (nL := 5) (code := pc_137) rfl rfl ?_
  refine px_PW.steps kt_137.2 3 rfl ?_
  refine px_PW.callS kt_137.2 rfl rfl rfl (cm_117 _ _ _ _) (by decide) (fun v h1 q => ?_)
  obtain ⟨rfl, rfl⟩ := q
  rw [if_neg (fun q => by
    obtain ⟨e, hl⟩ := px_in5 (n := 1) (by decide) q
    rcases (show use.toNatClampNeg = 0 ∨ use.toNatClampNeg = 1 by omega) with h | h
    · exact hb (Or.inl (by rw [e, h]; rfl))
    · exact hb (Or.inr (by rw [e, h]; rfl)))]
  refine px_PW.steps kt_137.2 1 rfl ?_
  refine px_PW.br (fun c0 => absurd c0 (by decide)) (fun _ => ?_)
  refine px_PW.steps kt_137.2 2 rfl ?_
  refine px_PW.callV kt_137.2 rfl rfl rfl rfl (mm_error 1 (by decide)) (by decide) (fun v h1 q => ?_)
  obtain ⟨rfl, rfl⟩ := q
  refine px_PW.ret kt_137.2 rfl rfl ?_
  exact ⟨rfl, _, _, px_sm.err, rfl⟩
/-- steps in their order, from what they do to how many numbers there are -/
theorem m_wf {ok : Int32 → Prop} {wt v : Nat → Int32} : ∀ (l : m_L) (m k d d' : Nat), (∀ i : Nat, i < l.length → wt (k + i) = (l.getD (l.length - 1 - i) (0, 0)).1 ∧ v (k + i) = (l.getD (l.length - 1 - i) (0, 0)).2) → m_ef ok l d d' → r_wf ok wt v m (k + l.length) d' → r_wf ok wt v (l.length + m) k d
  | [], m, k, d, d', _, h, hw => by
    have h : d' = d := h
    subst h
    rw [show ([] : m_L).length + m = m from Nat.zero_add m]
    exact hw
  | p :: r, m, k, d, d', he, ⟨d1, h1, h2⟩, hw => by
    have e := he r.length (by simp)
    simp only [List.length_cons, Nat.add_sub_cancel, Nat.sub_self, List.getD_cons_zero] at e
    have hw' : r_wf ok wt v (m + 1) (k + r.length) d1 := by
      have hw : r_wf ok wt v m (k + r.length + 1) d' := hw
      unfold r_wf
      rw [e.1, e.2]
      rcases h2 with ⟨q, rfl⟩ | ⟨q, q2, rfl⟩ | ⟨q, q2, rfl⟩ | ⟨q, q2, q3⟩
      · exact Or.inl ⟨q, hw⟩
      · exact Or.inr (Or.inl ⟨q, q2, hw⟩)
      · exact Or.inr (Or.inr (Or.inl ⟨q, q2, hw⟩))
      · exact Or.inr (Or.inr (Or.inr ⟨q, q2, by rw [show d1 - 1 = d' by omega]; exact hw⟩))
    rw [show (p :: r).length + m = r.length + (m + 1) by simp only [List.length_cons]; omega]
    refine m_wf r (m + 1) k d d1 (fun i hi => ?_) h1 hw'
    have e2 := he i (by simp only [List.length_cons]; omega)
    simp only [List.length_cons, Nat.add_sub_cancel] at e2
    rw [show r.length - i = (r.length - 1 - i) + 1 by omega, List.getD_cons_succ] at e2
    exact e2
theorem m_st_get {g : Nat → Int32} : ∀ (l : m_L), m_st g l → ∀ i : Nat, i < l.length → g (2 * i) = (l.getD (l.length - 1 - i) (0, 0)).1 ∧ g (2 * i + 1) = (l.getD (l.length - 1 - i) (0, 0)).2
  | [], _, i, hi => absurd hi (Nat.not_lt_zero i)
  | p :: r, h, i, hi => by
    simp only [List.length_cons, Nat.add_sub_cancel] at hi ⊢
    rcases Nat.lt_or_ge i r.length with c | c
    · rw [show r.length - i = (r.length - 1 - i) + 1 by omega, List.getD_cons_succ]
      exact m_st_get r h.2.2 i c
    · obtain rfl : i = r.length := by omega
      rw [Nat.sub_self, List.getD_cons_zero]
      exact ⟨h.1, h.2.1⟩
/-- a TEXT just laid is in order -/
theorem m_tx {ok : Int32 → Prop} {g f : Nat → Int32} {l : m_L} {b : Nat} (hl : l.length ≤ 60) (hg : m_st g l) (he : m_ef ok l 0 1) {s : Nat → Int32} (hs : s = zz_pl g (upd f b (nI l.length)) (b + 1) (2 * l.length)) : ∃ n : Nat, n ≤ 62 ∧ s b = nI n ∧ r_wf ok (fun k => s (b + 1 + 2 * k)) (fun k => s (b + 2 + 2 * k)) n 0 0 := by
  subst hs
  refine ⟨l.length, by omega, ?_, ?_⟩
  · unfold zz_pl
    rw [if_neg (by omega), px_upd_self]
  · have h := m_wf (ok := ok) (wt := fun k => zz_pl g (upd f b (nI l.length)) (b + 1) (2 * l.length) (b + 1 + 2 * k)) (v := fun k => zz_pl g (upd f b (nI l.length)) (b + 1) (2 * l.length) (b + 2 + 2 * k)) l 0 0 0 1 (fun i hi => ?_) he rfl
    · exact h
    · have e := m_st_get l hg i hi
      try dsimp only
      unfold zz_pl
      rw [Nat.zero_add, if_pos (by omega), if_pos (by omega), show b + 1 + 2 * i - (b + 1) = 2 * i by omega, show b + 2 + 2 * i - (b + 1) = 2 * i + 1 by omega]
      exact e
theorem m_R.ef {P : Nat} {T : Nat → Int32} {u a' o' : Nat} {l' : m_L} (h : m_R P T u 0 0 0 [] true a' o' l') : m_ef (m_nm u) l' 0 1 ∧ l'.length ≤ a' := by
  obtain ⟨-, -, -, -, t, h5, h6, h7⟩ := h.S
  obtain ⟨-, e2, -⟩ := h7 rfl
  rw [List.append_nil] at h5
  subst h5
  unfold m_eff at e2
  rw [if_pos (by omega)] at e2
  exact ⟨e2 0, by omega⟩
theorem m_ef_mono {ok ok2 : Int32 → Prop} (hk : ∀ v, ok v → ok2 v) : ∀ (l : m_L) {d d' : Nat}, m_ef ok l d d' → m_ef ok2 l d d'
  | [], d, d', h => h
  | p :: r, d, d', ⟨d1, h1, h2⟩ => ⟨d1, m_ef_mono hk r h1, h2.imp id (Or.imp (fun q => ⟨q.1, hk _ q.2.1, q.2.2⟩) id)⟩
theorem m_nm_ok0 (v : Int32) (h : m_nm 0 v) : r_ok0 v := by
  rcases h with ⟨-, h | h | h⟩ | ⟨h, -⟩
  · exact Or.inr (Or.inl h)
  · exact Or.inl h
  · exact Or.inr (Or.inr h)
  · cases h
theorem m_nm_ok1 (v : Int32) (h : m_nm 1 v) : r_ok1 v := by
  rcases h with ⟨h, -⟩ | ⟨-, h | h | h⟩
  · cases h
  · exact Or.inr (Or.inl h)
  · exact Or.inl h
  · exact Or.inr (Or.inr h)
/-- both tapes are empty then; TEXTS are as they are -/
theorem RR.tapeNo {Z N Zm : Nat → Int32} {F G : Nat → Nat → Int32} (h : RR Z N F Zm G) : RR Z (upd N 5 0) F Zm (va_up G 0 (upd (G 0) 8 0)) := by
  refine RR.now h (fun _ _ => rfl) (fun j hj => px_upd_ne _ _ (by omega)) (fun j hj => rfl) (h.1.upd (by decide) (by decide) (by decide) ⟨by decide, by decide⟩) ?_ ?_ ⟨fun i hi => absurd (by rw [px_upd_self] at hi; exact hi) (Nat.not_lt_zero i), h.tt.2.1.cg rfl (fun _ _ => rfl) (fun j h1 h2 => px_upd_ne _ _ (by omega)), h.tt.2.2.cg rfl (fun _ _ => rfl) (fun j h1 h2 => px_upd_ne _ _ (by omega))⟩
  · obtain ⟨W, w1, w2, -⟩ := h.W
    exact g_row_hi h.2.1 (fun j hj => px_upd_ne _ _ (by omega)) ⟨0, by omega, px_upd_self _ _ _⟩ ⟨W, w1, (px_upd_ne _ _ (by omega)).trans w2⟩
  · obtain ⟨a1, a2, ⟨a3, a4⟩, ⟨a5, a6, a7, a8⟩, a9, a10, a11⟩ := h.2.2.1
    refine ⟨fun i hi => (a1 i hi).trans (px_upd_ne _ _ (by omega)).symm, a2.trans (px_upd_ne _ _ (by omega)).symm, ⟨by rw [px_upd_self, px_upd_self], by rw [px_upd_ne _ _ (by omega), px_upd_ne _ _ (by omega)]; exact a4⟩, ?_, fun n hn => ?_, fun i hi => ?_, fun i hi => ?_⟩
    · rw [px_upd_ne (G 0) _ (by omega), px_upd_ne N _ (by omega), px_upd_ne N _ (by omega), px_upd_ne N _ (by omega), px_upd_ne N _ (by omega)]; exact ⟨a5, a6, a7, a8⟩
    · rw [px_upd_ne _ _ (by omega)] at hn
      rw [px_upd_ne _ _ (by omega), px_upd_ne _ _ (by omega), px_upd_ne _ _ (by omega), px_upd_ne _ _ (by omega)]
      exact a9 n hn
    · rw [px_upd_self] at hi
      exact absurd hi (Nat.not_lt_zero i)
    · rw [px_upd_ne _ _ (by omega)] at hi
      rw [px_upd_ne _ _ (by omega)]
      exact a11 i hi
theorem px_st_ex {jc jm d1 d2 : Nat} {as : List Value} {c : Prop} {Z N Zm : Nat → Int32} {F G : Nat → Nat → Int32} {Qc Qm : Option Value → px_H → Prop} (hc : px_PM d1 jc (.ref 0 :: as) (px_CH Z N F, []) Qc) (hd1 : d1 ≤ 50) (hm : px_PM d2 jm (.ref 1000 :: as) ([], px_MH Zm G) Qm) (hd2 : d2 ≤ 50) (k : ∀ v h' v2 h2, Qc v h' → Qm v2 h2 → ∃ (a b : Int32) (Z' N' : Nat → Int32) (F' : Nat → Nat → Int32) (Zm' : Nat → Int32) (G' : Nat → Nat → Int32), (v = some (.int a) ∧ h' = (px_CH Z' N' F', [])) ∧ (v2 = some (.int b) ∧ h2 = ([], px_MH Zm' G')) ∧ RR Z' N' F' Zm' G' ∧ (c → a = b)) :
    ∃ (a b : Int32) (Z' N' : Nat → Int32) (F' : Nat → Nat → Int32) (Zm' : Nat → Int32) (G' : Nat → Nat → Int32), px_PM 50 jc (.ref 0 :: as) (px_CH Z N F, []) (fun r h' => r = some (.int a) ∧ h' = (px_CH Z' N' F', [])) ∧ px_PM 50 jm (.ref 1000 :: as) ([], px_MH Zm G) (fun r h' => r = some (.int b) ∧ h' = ([], px_MH Zm' G')) ∧ RR Z' N' F' Zm' G' ∧ (c → a = b) := by
  obtain ⟨v, h', q1, hp⟩ := hc.ex
  obtain ⟨v2, h2, q2, hp2⟩ := hm.ex
  obtain ⟨a, b, Z', N', F', Zm', G', ⟨rfl, rfl⟩, ⟨rfl, rfl⟩, hR, he⟩ := k v h' v2 h2 q1 q2
  exact ⟨a, b, Z', N', F', Zm', G', hp 50 hd1, hp2 50 hd2, hR, he⟩
