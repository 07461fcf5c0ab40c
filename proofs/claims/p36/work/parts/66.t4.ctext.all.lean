/-! part 66.t4.ctext -/
section
/-! the class's Reader, over lists (66.t4: ctext.py) -/
abbrev t_R : Type := List Int32 × List Int32 × Int32 × Int32 × Bool
def t_rep (Z N : Nat → Int32) (F : Nat → Nat → Int32) (c p : List Int32) (o d : Int32) (w : Bool) (k : Nat) : Prop := px_cw N ∧ (N 23 = nI c.length ∧ zz_st (F 23) c) ∧ (N 24 = nI p.length ∧ zz_st (F 24) p) ∧ (Z 15 = o ∧ Z 16 = d ∧ Z 17 = if w = true then 1 else 0) ∧ c.length + p.length ≤ k ∧ k ≤ 60
def t_rp (Z N : Nat → Int32) (F : Nat → Nat → Int32) (R : t_R) (k : Nat) : Prop := t_rep Z N F R.1 R.2.1 R.2.2.1 R.2.2.2.1 R.2.2.2.2 k
def t_same (Z N : Nat → Int32) (F : Nat → Nat → Int32) (Z' N' : Nat → Int32) (F' : Nat → Nat → Int32) : Prop := (∀ i : Nat, ¬ (15 ≤ i ∧ i ≤ 17) → Z' i = Z i) ∧ (∀ q : Nat, ¬ (q = 23 ∨ q = 24) → N' q = N q) ∧ ∀ q : Nat, ¬ (q = 23 ∨ q = 24) → F' q = F q
theorem t_same.rf {Z N : Nat → Int32} {F : Nat → Nat → Int32} : t_same Z N F Z N F := ⟨fun _ _ => rfl, fun _ _ => rfl, fun _ _ => rfl⟩
theorem t_same.tr {Z N Z1 N1 Z2 N2 : Nat → Int32} {F F1 F2 : Nat → Nat → Int32} (h : t_same Z N F Z1 N1 F1) (k : t_same Z1 N1 F1 Z2 N2 F2) : t_same Z N F Z2 N2 F2 := ⟨fun i hi => (k.1 i hi).trans (h.1 i hi), fun q hq => (k.2.1 q hq).trans (h.2.1 q hq), fun q hq => (k.2.2 q hq).trans (h.2.2 q hq)⟩
theorem t_same.z {Z N : Nat → Int32} {F : Nat → Nat → Int32} {k : Nat} {x : Int32} (hk : 15 ≤ k ∧ k ≤ 17) : t_same Z N F (upd Z k x) N F := ⟨fun i hi => px_upd_ne Z x (by omega), fun _ _ => rfl, fun _ _ => rfl⟩
theorem t_same.n {Z N : Nat → Int32} {F : Nat → Nat → Int32} {k : Nat} {x : Int32} (hk : k = 23 ∨ k = 24) : t_same Z N F Z (upd N k x) F := ⟨fun _ _ => rfl, fun q hq => px_upd_ne N x (by omega), fun _ _ => rfl⟩
theorem t_same.f {Z N : Nat → Int32} {F : Nat → Nat → Int32} {k : Nat} {g : Nat → Int32} (hk : k = 23 ∨ k = 24) : t_same Z N F Z N (va_up F k g) := ⟨fun _ _ => rfl, fun _ _ => rfl, fun q hq => px_up_ne F g (by omega)⟩
theorem t_cw {N : Nat → Int32} (h : px_cw N) {q n : Nat} (hq : q = 23 ∨ q = 24) (hn : n ≤ 60) : px_cw (upd N q (nI n)) := by
  refine ⟨by rw [px_upd_ne N _ (by omega)]; exact h.1, by rw [px_upd_ne N _ (by omega)]; exact h.2.1, by rw [px_upd_ne N _ (by omega)]; exact h.2.2.1, fun j hj => ?_⟩
  by_cases c : j = q
  · subst c
    rw [px_upd_self]
    refine ⟨nI_pos' (by omega), ?_⟩
    rw [nI_toInt (by omega)]
    rcases hq with rfl | rfl <;> exact Int.ofNat_le.mpr hn
  · rw [px_upd_ne N _ c]
    exact h.2.2.2 j hj
section TREP
variable {Z N : Nat → Int32} {F : Nat → Nat → Int32} {c p : List Int32} {o d : Int32} {w : Bool} {k : Nat}
theorem t_rep.up (h : t_rep Z N F c p o d w k) (hk : k < 60) : t_rep Z N F c p o d w (k + 1) := ⟨h.1, h.2.1, h.2.2.1, h.2.2.2.1, Nat.le_succ_of_le h.2.2.2.2.1, hk⟩
theorem t_rep.ho (h : t_rep Z N F c p o d w k) : Z 15 = o := h.2.2.2.1.1
theorem t_rep.hd (h : t_rep Z N F c p o d w k) : Z 16 = d := h.2.2.2.1.2.1
theorem t_rep.hw (h : t_rep Z N F c p o d w k) : Z 17 = if w = true then 1 else 0 := h.2.2.2.1.2.2
theorem t_rep.o1 (h : t_rep Z N F c p o d w k) : t_rep (upd Z 15 (Z 15 + 1)) N F c p (o + 1) d w k := ⟨h.1, h.2.1, h.2.2.1, ⟨by rw [px_upd_self, h.ho], by rw [px_upd_ne _ _ (by omega)]; exact h.hd, by rw [px_upd_ne _ _ (by omega)]; exact h.hw⟩, h.2.2.2.2⟩
theorem t_rep.om (h : t_rep Z N F c p o d w k) : t_rep (upd Z 15 (Z 15 - 1)) N F c p (o - 1) d w k := ⟨h.1, h.2.1, h.2.2.1, ⟨by rw [px_upd_self, h.ho], by rw [px_upd_ne _ _ (by omega)]; exact h.hd, by rw [px_upd_ne _ _ (by omega)]; exact h.hw⟩, h.2.2.2.2⟩
theorem t_rep.d1 (h : t_rep Z N F c p o d w k) : t_rep (upd Z 16 (Z 16 + 1)) N F c p o (d + 1) w k := ⟨h.1, h.2.1, h.2.2.1, ⟨by rw [px_upd_ne _ _ (by omega)]; exact h.ho, by rw [px_upd_self, h.hd], by rw [px_upd_ne _ _ (by omega)]; exact h.hw⟩, h.2.2.2.2⟩
theorem t_rep.dx (h : t_rep Z N F c p o d w k) (x : Int32) : t_rep (upd Z 16 x) N F c p o x w k := ⟨h.1, h.2.1, h.2.2.1, ⟨by rw [px_upd_ne _ _ (by omega)]; exact h.ho, px_upd_self _ _ _, by rw [px_upd_ne _ _ (by omega)]; exact h.hw⟩, h.2.2.2.2⟩
theorem t_rep.w1 (h : t_rep Z N F c p o d w k) : t_rep (upd Z 17 1) N F c p o d true k := ⟨h.1, h.2.1, h.2.2.1, ⟨by rw [px_upd_ne _ _ (by omega)]; exact h.ho, by rw [px_upd_ne _ _ (by omega)]; exact h.hd, px_upd_self _ _ _⟩, h.2.2.2.2⟩
theorem t_rep.w0 (h : t_rep Z N F c p o d w k) : t_rep (upd Z 17 0) N F c p o d false k := ⟨h.1, h.2.1, h.2.2.1, ⟨by rw [px_upd_ne _ _ (by omega)]; exact h.ho, by rw [px_upd_ne _ _ (by omega)]; exact h.hd, px_upd_self _ _ _⟩, h.2.2.2.2⟩
theorem ct_size (h : t_rep Z N F c p o d w k) : px_PM 1 2 [.ref 58] (px_CH Z N F, []) (fun r h' => r = some (.int (nI p.length)) ∧ h' = (px_CH Z N F, [])) := by
  have g := nb_size (Z := Z) (N := N) (F := F) (q := 24) (by decide)
  rw [h.2.2.1.1] at g
  exact g
theorem ct_top (h : t_rep Z N F c p o d w k) : px_PM 1 6 [.ref 58, .int (nI p.length - 1)] (px_CH Z N F, []) (fun r h' => r = some (.int (p.headD 0)) ∧ h' = (px_CH Z N F, [])) := by
  have g := nb_get (Z := Z) (N := N) (F := F) (q := 24) (by decide) (nI p.length - 1) (h.1.lim (by decide))
  obtain ⟨-, -, ⟨e1, e2⟩, -, e3, e4⟩ := h
  rw [e1] at g
  cases p with
  | nil =>
    rw [if_pos (Or.inl (by decide))] at g
    exact g
  | cons x r =>
    simp only [List.length_cons] at g e3
    rw [nI_pred, if_neg (fun q => q.elim (nI_pos (by omega)) (nI_ge (by omega) (by omega))), nI_clamp (by omega), e2.1] at g
    have e6 : nI (x :: r).length - 1 = nI r.length := nI_pred r.length
    rw [e6]
    exact g
theorem ct_pop24 (h : t_rep Z N F c p o d w k) : px_PM 1 9 [.ref 58] (px_CH Z N F, []) (fun r h' => r = some (.int (p.headD 0)) ∧ ∃ (Z' N' : Nat → Int32) (F' : Nat → Nat → Int32), h' = (px_CH Z' N' F', []) ∧ t_rep Z' N' F' c p.tail o d w k ∧ t_same Z N F Z' N' F') := by
  obtain ⟨e0, ⟨c1, c2⟩, ⟨e1, e2⟩, e3, e4, e5⟩ := h
  refine (nb_popS (Z := Z) (N := N) (F := F) (q := 24) (l := p) (by decide) e1 (show p.length ≤ 60 by omega) e2).mono (Nat.le_refl _) (fun r h' q => ?_)
  refine ⟨q.1, Z, _, F, q.2, ⟨t_cw e0 (Or.inr rfl) (by rw [List.length_tail]; omega), ⟨by rw [px_upd_ne N _ (by omega)]; exact c1, c2⟩, ⟨px_upd_self _ _ _, zz_st_tail e2⟩, e3, by rw [List.length_tail]; omega, e5⟩, t_same.n (Or.inr rfl)⟩
theorem ct_pop23 (h : t_rep Z N F c p o d w k) : px_PM 1 9 [.ref 56] (px_CH Z N F, []) (fun r h' => r = some (.int (c.headD 0)) ∧ ∃ (Z' N' : Nat → Int32) (F' : Nat → Nat → Int32), h' = (px_CH Z' N' F', []) ∧ t_rep Z' N' F' c.tail p o d w k ∧ t_same Z N F Z' N' F') := by
  obtain ⟨e0, ⟨c1, c2⟩, ⟨e1, e2⟩, e3, e4, e5⟩ := h
  refine (nb_popS (Z := Z) (N := N) (F := F) (q := 23) (l := c) (by decide) c1 (show c.length ≤ 60 by omega) c2).mono (Nat.le_refl _) (fun r h' q => ?_)
  refine ⟨q.1, Z, _, F, q.2, ⟨t_cw e0 (Or.inl rfl) (by rw [List.length_tail]; omega), ⟨px_upd_self _ _ _, zz_st_tail c2⟩, ⟨by rw [px_upd_ne N _ (by omega)]; exact e1, e2⟩, e3, by rw [List.length_tail]; omega, e5⟩, t_same.n (Or.inl rfl)⟩
theorem ct_push24 (h : t_rep Z N F c p o d w k) (hk : k < 60) (v : Int32) : px_PM 1 8 [.ref 58, .int v] (px_CH Z N F, []) (fun r h' => r = none ∧ ∃ (Z' N' : Nat → Int32) (F' : Nat → Nat → Int32), h' = (px_CH Z' N' F', []) ∧ t_rep Z' N' F' c (v :: p) o d w (k + 1) ∧ t_same Z N F Z' N' F') := by
  obtain ⟨e0, ⟨c1, c2⟩, ⟨e1, e2⟩, e3, e4, e5⟩ := h
  refine (nb_pushS (Z := Z) (N := N) (F := F) (q := 24) (l := p) (by decide) e1 (show p.length < 60 by omega) v).mono (Nat.le_refl _) (fun r h' q => ?_)
  refine ⟨q.1, Z, _, _, q.2, ⟨t_cw e0 (Or.inr rfl) (by rw [List.length_cons]; omega), ⟨by rw [px_upd_ne N _ (by omega)]; exact c1, c2⟩, ⟨px_upd_self _ _ _, by rw [px_up_self]; exact zz_st_push e2⟩, e3, by rw [List.length_cons]; omega, by omega⟩, (t_same.n (Or.inr rfl)).tr (t_same.f (Or.inr rfl))⟩
theorem ct_push23 (h : t_rep Z N F c p o d w k) (hk : k < 60) (v : Int32) : px_PM 1 8 [.ref 56, .int v] (px_CH Z N F, []) (fun r h' => r = none ∧ ∃ (Z' N' : Nat → Int32) (F' : Nat → Nat → Int32), h' = (px_CH Z' N' F', []) ∧ t_rep Z' N' F' (v :: c) p o d w (k + 1) ∧ t_same Z N F Z' N' F') := by
  obtain ⟨e0, ⟨c1, c2⟩, ⟨e1, e2⟩, e3, e4, e5⟩ := h
  refine (nb_pushS (Z := Z) (N := N) (F := F) (q := 23) (l := c) (by decide) c1 (show c.length < 60 by omega) v).mono (Nat.le_refl _) (fun r h' q => ?_)
  refine ⟨q.1, Z, _, _, q.2, ⟨t_cw e0 (Or.inl rfl) (by rw [List.length_cons]; omega), ⟨px_upd_self _ _ _, by rw [px_up_self]; exact zz_st_push c2⟩, ⟨by rw [px_upd_ne N _ (by omega)]; exact e1, e2⟩, e3, by rw [List.length_cons]; omega, by omega⟩, (t_same.n (Or.inl rfl)).tr (t_same.f (Or.inl rfl))⟩
end TREP
def t_rank (s : Int32) : Int32 := (if s = 33 then 6 else (if s = 37 then 5 else (if s = 38 then 2 else (if s = 42 then 5 else (if s = 43 then 4 else (if s = 45 then 4 else (if s = 47 then 5 else (if s = 60 then 3 else (if s = 61 then 3 else (if s = 62 then 3 else (if s = 124 then 1 else 0)))))))))))
theorem px_swd_21_1 {x : Int32} (c0 : ¬ (x = 33)) (c1 : ¬ (x = 37)) (c2 : ¬ (x = 38)) (c3 : ¬ (x = 42)) (c4 : ¬ (x = 43)) (c5 : ¬ (x = 45)) (c6 : ¬ (x = 47)) (c7 : ¬ (x = 60)) (c8 : ¬ (x = 61)) (c9 : ¬ (x = 62)) (c10 : ¬ (x = 124)) : px_lk [(33, 110), (37, 108), (38, 102), (42, 108), (43, 106), (45, 106), (47, 108), (60, 104), (61, 104), (62, 104), (124, 100)] 113 x.toInt = 113 := by
  have d0 : ¬ (x.toInt = 33) := fun h => c0 (px_i_of h (by decide +kernel))
  have d1 : ¬ (x.toInt = 37) := fun h => c1 (px_i_of h (by decide +kernel))
  have d2 : ¬ (x.toInt = 38) := fun h => c2 (px_i_of h (by decide +kernel))
  have d3 : ¬ (x.toInt = 42) := fun h => c3 (px_i_of h (by decide +kernel))
  have d4 : ¬ (x.toInt = 43) := fun h => c4 (px_i_of h (by decide +kernel))
  have d5 : ¬ (x.toInt = 45) := fun h => c5 (px_i_of h (by decide +kernel))
  have d6 : ¬ (x.toInt = 47) := fun h => c6 (px_i_of h (by decide +kernel))
  have d7 : ¬ (x.toInt = 60) := fun h => c7 (px_i_of h (by decide +kernel))
  have d8 : ¬ (x.toInt = 61) := fun h => c8 (px_i_of h (by decide +kernel))
  have d9 : ¬ (x.toInt = 62) := fun h => c9 (px_i_of h (by decide +kernel))
  have d10 : ¬ (x.toInt = 124) := fun h => c10 (px_i_of h (by decide +kernel))
  simp only [px_lk, decide_eq_false (fun h : (33 : Int) = x.toInt => d0 h.symm), decide_eq_false (fun h : (37 : Int) = x.toInt => d1 h.symm), decide_eq_false (fun h : (38 : Int) = x.toInt => d2 h.symm), decide_eq_false (fun h : (42 : Int) = x.toInt => d3 h.symm), decide_eq_false (fun h : (43 : Int) = x.toInt => d4 h.symm), decide_eq_false (fun h : (45 : Int) = x.toInt => d5 h.symm), decide_eq_false (fun h : (47 : Int) = x.toInt => d6 h.symm), decide_eq_false (fun h : (60 : Int) = x.toInt => d7 h.symm), decide_eq_false (fun h : (61 : Int) = x.toInt => d8 h.symm), decide_eq_false (fun h : (62 : Int) = x.toInt => d9 h.symm), decide_eq_false (fun h : (124 : Int) = x.toInt => d10 h.symm)]
  rfl
theorem ct_rank   (s : Int32) (h : px_H) : px_PM 1 21 [.int s] h (fun r h' => r = some (.int (t_rank s)) ∧ h' = h) := by
  refine px_PM.start (nL := 1) (code := pc_21) rfl rfl ?_
  refine px_PW.steps kt_21.2 2 rfl ?_
  by_cases c0 : s = 33
  · refine px_PW.at (pc' := 110) (show px_lk [(33, 110), (37, 108), (38, 102), (42, 108), (43, 106), (45, 106), (47, 108), (60, 104), (61, 104), (62, 104), (124, 100)] 113 (s : Int32).toInt = 110 by rw [c0]; rfl) ?_
    refine px_PW.steps kt_21.2 1 rfl ?_
    refine px_PW.ret kt_21.2 rfl rfl ?_
    exact ⟨congrArg (fun z => some (Value.int z)) (show t_rank s = 6 from if_pos c0).symm, rfl⟩
  · skip
    by_cases c1 : s = 37
    · refine px_PW.at (pc' := 108) (show px_lk [(33, 110), (37, 108), (38, 102), (42, 108), (43, 106), (45, 106), (47, 108), (60, 104), (61, 104), (62, 104), (124, 100)] 113 (s : Int32).toInt = 108 by rw [c1]; rfl) ?_
      refine px_PW.steps kt_21.2 1 rfl ?_
      refine px_PW.ret kt_21.2 rfl rfl ?_
      exact ⟨congrArg (fun z => some (Value.int z)) (show t_rank s = 5 from (if_neg c0).trans (if_pos c1)).symm, rfl⟩
    · skip
      by_cases c2 : s = 38
      · refine px_PW.at (pc' := 102) (show px_lk [(33, 110), (37, 108), (38, 102), (42, 108), (43, 106), (45, 106), (47, 108), (60, 104), (61, 104), (62, 104), (124, 100)] 113 (s : Int32).toInt = 102 by rw [c2]; rfl) ?_
        refine px_PW.steps kt_21.2 1 rfl ?_
        refine px_PW.ret kt_21.2 rfl rfl ?_
        exact ⟨congrArg (fun z => some (Value.int z)) (show t_rank s = 2 from (if_neg c0).trans ((if_neg c1).trans (if_pos c2))).symm, rfl⟩
      · skip
        by_cases c3 : s = 42
        · refine px_PW.at (pc' := 108) (show px_lk [(33, 110), (37, 108), (38, 102), (42, 108), (43, 106), (45, 106), (47, 108), (60, 104), (61, 104), (62, 104), (124, 100)] 113 (s : Int32).toInt = 108 by rw [c3]; rfl) ?_
          refine px_PW.steps kt_21.2 1 rfl ?_
          refine px_PW.ret kt_21.2 rfl rfl ?_
          exact ⟨congrArg (fun z => some (Value.int z)) (show t_rank s = 5 from (if_neg c0).trans ((if_neg c1).trans ((if_neg c2).trans (if_pos c3)))).symm, rfl⟩
        · skip
          by_cases c4 : s = 43
          · refine px_PW.at (pc' := 106) (show px_lk [(33, 110), (37, 108), (38, 102), (42, 108), (43, 106), (45, 106), (47, 108), (60, 104), (61, 104), (62, 104), (124, 100)] 113 (s : Int32).toInt = 106 by rw [c4]; rfl) ?_
            refine px_PW.steps kt_21.2 1 rfl ?_
            refine px_PW.ret kt_21.2 rfl rfl ?_
            exact ⟨congrArg (fun z => some (Value.int z)) (show t_rank s = 4 from (if_neg c0).trans ((if_neg c1).trans ((if_neg c2).trans ((if_neg c3).trans (if_pos c4))))).symm, rfl⟩
          · skip
            by_cases c5 : s = 45
            · refine px_PW.at (pc' := 106) (show px_lk [(33, 110), (37, 108), (38, 102), (42, 108), (43, 106), (45, 106), (47, 108), (60, 104), (61, 104), (62, 104), (124, 100)] 113 (s : Int32).toInt = 106 by rw [c5]; rfl) ?_
              refine px_PW.steps kt_21.2 1 rfl ?_
              refine px_PW.ret kt_21.2 rfl rfl ?_
              exact ⟨congrArg (fun z => some (Value.int z)) (show t_rank s = 4 from (if_neg c0).trans ((if_neg c1).trans ((if_neg c2).trans ((if_neg c3).trans ((if_neg c4).trans (if_pos c5)))))).symm, rfl⟩
            · skip
              by_cases c6 : s = 47
              · refine px_PW.at (pc' := 108) (show px_lk [(33, 110), (37, 108), (38, 102), (42, 108), (43, 106), (45, 106), (47, 108), (60, 104), (61, 104), (62, 104), (124, 100)] 113 (s : Int32).toInt = 108 by rw [c6]; rfl) ?_
                refine px_PW.steps kt_21.2 1 rfl ?_
                refine px_PW.ret kt_21.2 rfl rfl ?_
                exact ⟨congrArg (fun z => some (Value.int z)) (show t_rank s = 5 from (if_neg c0).trans ((if_neg c1).trans ((if_neg c2).trans ((if_neg c3).trans ((if_neg c4).trans ((if_neg c5).trans (if_pos c6))))))).symm, rfl⟩
              · skip
                by_cases c7 : s = 60
                · refine px_PW.at (pc' := 104) (show px_lk [(33, 110), (37, 108), (38, 102), (42, 108), (43, 106), (45, 106), (47, 108), (60, 104), (61, 104), (62, 104), (124, 100)] 113 (s : Int32).toInt = 104 by rw [c7]; rfl) ?_
                  refine px_PW.steps kt_21.2 1 rfl ?_
                  refine px_PW.ret kt_21.2 rfl rfl ?_
                  exact ⟨congrArg (fun z => some (Value.int z)) (show t_rank s = 3 from (if_neg c0).trans ((if_neg c1).trans ((if_neg c2).trans ((if_neg c3).trans ((if_neg c4).trans ((if_neg c5).trans ((if_neg c6).trans (if_pos c7)))))))).symm, rfl⟩
                · skip
                  by_cases c8 : s = 61
                  · refine px_PW.at (pc' := 104) (show px_lk [(33, 110), (37, 108), (38, 102), (42, 108), (43, 106), (45, 106), (47, 108), (60, 104), (61, 104), (62, 104), (124, 100)] 113 (s : Int32).toInt = 104 by rw [c8]; rfl) ?_
                    refine px_PW.steps kt_21.2 1 rfl ?_
                    refine px_PW.ret kt_21.2 rfl rfl ?_
                    exact ⟨congrArg (fun z => some (Value.int z)) (show t_rank s = 3 from (if_neg c0).trans ((if_neg c1).trans ((if_neg c2).trans ((if_neg c3).trans ((if_neg c4).trans ((if_neg c5).trans ((if_neg c6).trans ((if_neg c7).trans (if_pos c8))))))))).symm, rfl⟩
                  · skip
                    by_cases c9 : s = 62
                    · refine px_PW.at (pc' := 104) (show px_lk [(33, 110), (37, 108), (38, 102), (42, 108), (43, 106), (45, 106), (47, 108), (60, 104), (61, 104), (62, 104), (124, 100)] 113 (s : Int32).toInt = 104 by rw [c9]; rfl) ?_
                      refine px_PW.steps kt_21.2 1 rfl ?_
                      refine px_PW.ret kt_21.2 rfl rfl ?_
                      exact ⟨congrArg (fun z => some (Value.int z)) (show t_rank s = 3 from (if_neg c0).trans ((if_neg c1).trans ((if_neg c2).trans ((if_neg c3).trans ((if_neg c4).trans ((if_neg c5).trans ((if_neg c6).trans ((if_neg c7).trans ((if_neg c8).trans (if_pos c9)))))))))).symm, rfl⟩
                    · skip
                      by_cases c10 : s = 124
                      · refine px_PW.at (pc' := 100) (show px_lk [(33, 110), (37, 108), (38, 102), (42, 108), (43, 106), (45, 106), (47, 108), (60, 104), (61, 104), (62, 104), (124, 100)] 113 (s : Int32).toInt = 100 by rw [c10]; rfl) ?_
                        refine px_PW.steps kt_21.2 1 rfl ?_
                        refine px_PW.ret kt_21.2 rfl rfl ?_
                        exact ⟨congrArg (fun z => some (Value.int z)) (show t_rank s = 1 from (if_neg c0).trans ((if_neg c1).trans ((if_neg c2).trans ((if_neg c3).trans ((if_neg c4).trans ((if_neg c5).trans ((if_neg c6).trans ((if_neg c7).trans ((if_neg c8).trans ((if_neg c9).trans (if_pos c10))))))))))).symm, rfl⟩
                      · skip
                        refine px_PW.at (px_swd_21_1 c0 c1 c2 c3 c4 c5 c6 c7 c8 c9 c10) ?_
                        refine px_PW.steps kt_21.2 1 rfl ?_
                        refine px_PW.ret kt_21.2 rfl rfl ?_
                        exact ⟨congrArg (fun z => some (Value.int z)) (show t_rank s = 0 from (if_neg c0).trans ((if_neg c1).trans ((if_neg c2).trans ((if_neg c3).trans ((if_neg c4).trans ((if_neg c5).trans ((if_neg c6).trans ((if_neg c7).trans ((if_neg c8).trans ((if_neg c9).trans (if_neg c10))))))))))).symm, rfl⟩
theorem ct_digit (s : Int32) (h : px_H) : px_PM 1 20 [.int s] h (fun r h' => r = some (.int (if s < 48 ∨ 57 < s then 0 else 1)) ∧ h' = h) := by
  refine px_PM.start (nL := 1) (code := pc_20) rfl rfl ?_
  refine px_PW.steps kt_20.2 3 rfl ?_
  refine px_PW.br (fun c0 => ?_) (fun c0 => ?_)
  · have c0 : s < 48 := of_decide_eq_true c0
    refine px_PW.steps kt_20.2 1 rfl ?_
    refine px_PW.ret kt_20.2 rfl rfl ?_
    exact ⟨by simp [*], rfl⟩
  · have c0 : ¬ (s < 48) := of_decide_eq_false c0
    refine px_PW.steps kt_20.2 3 rfl ?_
    refine px_PW.br (fun c1 => ?_) (fun c1 => ?_)
    · have c1 : 57 < s := of_decide_eq_true c1
      refine px_PW.steps kt_20.2 1 rfl ?_
      refine px_PW.ret kt_20.2 rfl rfl ?_
      exact ⟨by simp [*], rfl⟩
    · have c1 : ¬ (57 < s) := of_decide_eq_false c1
      refine px_PW.steps kt_20.2 2 rfl ?_
      refine px_PW.ret kt_20.2 rfl rfl ?_
      exact ⟨by simp [*], rfl⟩
/-- signs of a rank or above it come to the codes -/
def t_stl (r : Int32) : List Int32 → List Int32 → Int32 → List Int32 × List Int32 × Int32
  | c, [], o => (c, [], o)
  | c, x :: p, o => if t_rank x < r then (c, x :: p, o) else t_stl r (-x :: c) p (if x = 33 then o - 1 else o)
theorem t_stl_len (r : Int32) : ∀ (p c : List Int32) (o : Int32), (t_stl r c p o).1.length + (t_stl r c p o).2.1.length = c.length + p.length
  | [], c, o => rfl
  | x :: p, c, o => by
    unfold t_stl
    split
    · rfl
    · rw [t_stl_len r p (-x :: c)]
      simp only [List.length_cons]
      omega
theorem zz_pm (n : Nat) : nI n + -1 = nI n - 1 := (Int32.sub_eq_add_neg (nI n) 1).symm
theorem ct_set_loop {r d : Int32} {w : Bool} {Q : Option Value → px_H → Prop} {dd : Nat} (hdd : 1 ≤ dd) : ∀ (p c : List Int32) (o : Int32) (k : Nat) (Z N : Nat → Int32) (F : Nat → Nat → Int32) (w3 : Option Value), t_rep Z N F c p o d w k → (∀ (Z' N' : Nat → Int32) (F' : Nat → Nat → Int32) (w2 w3 : Option Value), t_rep Z' N' F' (t_stl r c p o).1 (t_stl r c p o).2.1 (t_stl r c p o).2.2 d w k → t_same Z N F Z' N' F' → px_PW dd pc_19 Q 68 [some (.ref 55), some (.int r), w2, w3] [] (px_CH Z' N' F', [])) → px_PW dd pc_19 Q 10 [some (.ref 55), some (.int r), some (.int (nI p.length - 1)), w3] [] (px_CH Z N F, [])
  | [], c, o, k, Z, N, F, w3, h, H => by
    refine px_PW.steps kt_19.2 2 rfl ?_
    exact px_PW.br (fun _ => H Z N F _ _ h t_same.rf) (fun c0 => absurd (of_decide_eq_false c0) (by decide))
  | x :: p, c, o, k, Z, N, F, w3, h, H => by
    have hlen := h.2.2.2.2
    simp only [List.length_cons] at hlen
    obtain ⟨k, rfl⟩ : ∃ m, k = m + 1 := ⟨k - 1, by omega⟩
    have hk : k < 60 := by omega
    have e1 : nI (x :: p).length - 1 = nI p.length := nI_pred p.length
    have htop := ct_top h
    rw [e1] at htop ⊢
    refine px_PW.steps kt_19.2 2 rfl ?_
    refine px_PW.br (fun c0 => ?_) (fun c0 => ?_)
    · have c0 : (nI p.length) < 0 := of_decide_eq_true c0
      exact absurd c0 (nI_pos (by omega))
    · have c0 : ¬ ((nI p.length) < 0) := of_decide_eq_false c0
      refine px_PW.steps kt_19.2 3 rfl ?_
      refine px_PW.callV kt_19.2 rfl rfl rfl rfl (htop) (by omega) (fun v h1 q => ?_)
      obtain ⟨rfl, rfl⟩ := q
      refine px_PW.callS kt_19.2 rfl rfl rfl (ct_rank _ _) (by omega) (fun v h1 q => ?_)
      obtain ⟨rfl, rfl⟩ := q
      refine px_PW.steps kt_19.2 2 rfl ?_
      refine px_PW.br (fun c1 => ?_) (fun c1 => ?_)
      · have c1 : (t_rank x) < r := of_decide_eq_true c1
        have e0 : t_stl r c (x :: p) o = (c, x :: p, o) := if_pos c1
        rw [e0] at H
        exact H Z N F _ _ h t_same.rf
      · have c1 : ¬ ((t_rank x) < r) := of_decide_eq_false c1
        have e0 : t_stl r c (x :: p) o = t_stl r (-x :: c) p (if x = 33 then o - 1 else o) := if_neg c1
        refine px_PW.steps kt_19.2 2 rfl ?_
        refine px_PW.callV kt_19.2 rfl rfl rfl rfl (ct_pop24 h) (by omega) (fun v h1 q => ?_)
        obtain ⟨rfl, Z1, N1, F1, rfl, r1, s1⟩ := q
        have r1 : t_rep Z1 N1 F1 c p o d w k := ⟨r1.1, r1.2.1, r1.2.2.1, r1.2.2.2.1, by have := hlen.1; show c.length + p.length ≤ k; omega, by omega⟩
        refine px_PW.steps kt_19.2 5 rfl ?_
        refine px_PW.callV kt_19.2 rfl rfl rfl rfl (ct_push23 (r1) hk _) (by omega) (fun v h1 q => ?_)
        obtain ⟨rfl, Z2, N2, F2, rfl, r2, s2⟩ := q
        refine px_PW.steps kt_19.2 3 rfl ?_
        refine px_PW.br (fun c2 => ?_) (fun c2 => ?_)
        · have c2 : ¬ (x = 33) := of_decide_eq_false (px_nt c2)
          refine px_PW.steps kt_19.2 2 rfl ?_
          rw [e0] at H
          rw [if_neg c2] at H
          have g := ct_set_loop (Q := Q) hdd p (-x :: c) o (k + 1) Z2 N2 F2 (some (.int x)) (r2) (fun Z9 N9 F9 w2 w3 r9 s9 => H Z9 N9 F9 w2 w3 r9 (((t_same.rf.tr s1).tr s2).tr s9))
          rw [← zz_pm] at g
          exact g
        · have c2 : x = 33 := of_decide_eq_true (px_nf c2)
          refine px_PW.steps kt_19.2 5 rfl ?_
          refine px_op_15 kt_19.2 rfl ?_
          refine px_PW.steps kt_19.2 2 rfl ?_
          rw [e0] at H
          rw [if_pos c2] at H
          have g := ct_set_loop (Q := Q) hdd p (-x :: c) (o - 1) (k + 1) (upd Z2 15 ((Z2 15) - 1)) N2 F2 (some (.int x)) ((r2).om) (fun Z9 N9 F9 w2 w3 r9 s9 => H Z9 N9 F9 w2 w3 r9 ((((t_same.rf.tr s1).tr s2).tr (t_same.z (k := 15) (by omega))).tr s9))
          rw [← zz_pm] at g
          exact g
theorem ct_settle {Z N : Nat → Int32} {F : Nat → Nat → Int32} {c p : List Int32} {o d : Int32} {w : Bool} {k : Nat} (h : t_rep Z N F c p o d w k) (r : Int32) : px_PM 2 19 [.ref 55, .int r] (px_CH Z N F, []) (fun rr h' => rr = none ∧ ∃ (Z' N' : Nat → Int32) (F' : Nat → Nat → Int32), h' = (px_CH Z' N' F', []) ∧ t_rep Z' N' F' (t_stl r c p o).1 (t_stl r c p o).2.1 (t_stl r c p o).2.2 d w k ∧ t_same Z N F Z' N' F') := by
  refine px_PM.start (nL := 4) (code := pc_19) rfl rfl ?_
  refine px_PW.steps kt_19.2 2 rfl ?_
  refine px_PW.callV kt_19.2 rfl rfl rfl rfl (ct_size h) (by decide) (fun v h1 q => ?_)
  obtain ⟨rfl, rfl⟩ := q
  refine px_PW.steps kt_19.2 3 rfl ?_
  refine ct_set_loop (Nat.le_refl 1) p c o k Z N F none h (fun Z9 N9 F9 w2 w3 r9 s9 => ?_)
  refine px_PW.ret kt_19.2 rfl rfl ?_
  exact ⟨rfl, _, _, _, rfl, r9, s9⟩
def t_close (c p : List Int32) (o d : Int32) (w : Bool) : t_R × Bool := (if 1 ≤ (nI (t_stl 1 c p o).2.1.length) then (((t_stl 1 c p o).1, (t_stl 1 c p o).2.1.tail, ((t_stl 1 c p o).2.2 - 1), d, w), true) else (((t_stl 1 c p o).1, (t_stl 1 c p o).2.1, (t_stl 1 c p o).2.2, d, w), false))
theorem ct_close {Z N : Nat → Int32} {F : Nat → Nat → Int32} {c p : List Int32} {o d : Int32} {w : Bool} {k : Nat} (h : t_rep Z N F c p o d w k) (hk : k < 60) : px_PM 3 18 [.ref 55] (px_CH Z N F, []) (fun r h' => r = some (.int (if (t_close c p o d w).2 = true then 1 else 0)) ∧ ∃ (Z' N' : Nat → Int32) (F' : Nat → Nat → Int32), h' = (px_CH Z' N' F', []) ∧ t_rp Z' N' F' (t_close c p o d w).1 (k + 1) ∧ t_same Z N F Z' N' F') := by
  refine px_PM.start (nL := 1) (code := pc_18) rfl rfl ?_
  refine px_PW.steps kt_18.2 2 rfl ?_
  refine px_PW.callV kt_18.2 rfl rfl rfl rfl (ct_settle (h) _) (by decide) (fun v h1 q => ?_)
  obtain ⟨rfl, Z3, N3, F3, rfl, r3, s3⟩ := q
  refine px_PW.steps kt_18.2 2 rfl ?_
  refine px_PW.callV kt_18.2 rfl rfl rfl rfl (ct_size (r3)) (by decide) (fun v h1 q => ?_)
  obtain ⟨rfl, rfl⟩ := q
  refine px_PW.steps kt_18.2 2 rfl ?_
  refine px_PW.br (fun c0 => ?_) (fun c0 => ?_)
  · have c0 : 1 ≤ (nI (t_stl 1 c p o).2.1.length) := of_decide_eq_true c0
    refine px_PW.steps kt_18.2 2 rfl ?_
    refine px_PW.callV kt_18.2 rfl rfl rfl rfl (ct_pop24 (r3)) (by decide) (fun v h1 q => ?_)
    obtain ⟨rfl, Z4, N4, F4, rfl, r4, s4⟩ := q
    refine px_PW.steps kt_18.2 6 rfl ?_
    refine px_op_15 kt_18.2 rfl ?_
    refine px_PW.steps kt_18.2 1 rfl ?_
    refine px_PW.ret kt_18.2 rfl rfl ?_
    have E : t_close c p o d w = (((t_stl 1 c p o).1, (t_stl 1 c p o).2.1.tail, ((t_stl 1 c p o).2.2 - 1), d, w), true) := if_pos c0
    rw [E]
    exact ⟨rfl, _, _, _, rfl, ((r4).om).up hk, (((t_same.rf.tr s3).tr s4).tr (t_same.z (k := 15) (by omega)))⟩
  · have c0 : ¬ (1 ≤ (nI (t_stl 1 c p o).2.1.length)) := of_decide_eq_false c0
    refine px_PW.steps kt_18.2 1 rfl ?_
    refine px_PW.ret kt_18.2 rfl rfl ?_
    have E : t_close c p o d w = (((t_stl 1 c p o).1, (t_stl 1 c p o).2.1, (t_stl 1 c p o).2.2, d, w), false) := if_neg c0
    rw [E]
    exact ⟨rfl, _, _, _, rfl, (r3).up hk, (t_same.rf.tr s3)⟩
def t_dgt (s : Int32) (c p : List Int32) (o d : Int32) (w : Bool) : t_R × Bool := (if d < 1 then ((c, p, o, d, w), false) else (if d < 4 then ((((((c.headD 0) * 10) + s) :: c.tail), p, o, (d + 1), w), true) else ((c, p, o, d, w), false)))
theorem ct_dgt {Z N : Nat → Int32} {F : Nat → Nat → Int32} {c p : List Int32} {o d : Int32} {w : Bool} {k : Nat} (h : t_rep Z N F c p o d w k) (hk : k < 60) (s : Int32) : px_PM 2 17 [.ref 55, .int s] (px_CH Z N F, []) (fun r h' => r = some (.int (if (t_dgt s c p o d w).2 = true then 1 else 0)) ∧ ∃ (Z' N' : Nat → Int32) (F' : Nat → Nat → Int32), h' = (px_CH Z' N' F', []) ∧ t_rp Z' N' F' (t_dgt s c p o d w).1 (k + 1) ∧ t_same Z N F Z' N' F') := by
  refine px_PM.start (nL := 2) (code := pc_17) rfl rfl ?_
  refine px_PW.steps kt_17.2 4 rfl ?_
  refine px_PW.br (fun c0 => ?_) (fun c0 => ?_)
  · have c0 : (Z 16) < 1 := of_decide_eq_true c0
    rw [show Z 16 = d from (h).hd] at c0
    refine px_PW.steps kt_17.2 1 rfl ?_
    refine px_PW.ret kt_17.2 rfl rfl ?_
    have E : t_dgt s c p o d w = ((c, p, o, d, w), false) := if_pos c0
    rw [E]
    exact ⟨rfl, _, _, _, rfl, (h).up hk, t_same.rf⟩
  · have c0 : ¬ ((Z 16) < 1) := of_decide_eq_false c0
    rw [show Z 16 = d from (h).hd] at c0
    refine px_PW.steps kt_17.2 4 rfl ?_
    refine px_PW.br (fun c1 => ?_) (fun c1 => ?_)
    · have c1 : (Z 16) < 4 := of_decide_eq_true c1
      rw [show Z 16 = d from (h).hd] at c1
      refine px_PW.steps kt_17.2 4 rfl ?_
      refine px_PW.callV kt_17.2 rfl rfl rfl rfl (ct_pop23 (h)) (by decide) (fun v h1 q => ?_)
      obtain ⟨rfl, Z5, N5, F5, rfl, r5, s5⟩ := q
      refine px_PW.steps kt_17.2 4 rfl ?_
      refine px_PW.callV kt_17.2 rfl rfl rfl rfl (ct_push23 (r5) hk _) (by decide) (fun v h1 q => ?_)
      obtain ⟨rfl, Z6, N6, F6, rfl, r6, s6⟩ := q
      refine px_PW.steps kt_17.2 5 rfl ?_
      refine px_op_16 kt_17.2 rfl ?_
      refine px_PW.steps kt_17.2 1 rfl ?_
      refine px_PW.ret kt_17.2 rfl rfl ?_
      have E : t_dgt s c p o d w = ((((((c.headD 0) * 10) + s) :: c.tail), p, o, (d + 1), w), true) := (if_neg c0).trans (if_pos c1)
      rw [E]
      exact ⟨rfl, _, _, _, rfl, (r6).d1, (((t_same.rf.tr s5).tr s6).tr (t_same.z (k := 16) (by omega)))⟩
    · have c1 : ¬ ((Z 16) < 4) := of_decide_eq_false c1
      rw [show Z 16 = d from (h).hd] at c1
      refine px_PW.steps kt_17.2 1 rfl ?_
      refine px_PW.ret kt_17.2 rfl rfl ?_
      have E : t_dgt s c p o d w = ((c, p, o, d, w), false) := (if_neg c0).trans (if_neg c1)
      rw [E]
      exact ⟨rfl, _, _, _, rfl, (h).up hk, t_same.rf⟩
def t_goOn (s : Int32) (c p : List Int32) (o d : Int32) (w : Bool) : t_R × Bool := (if s < 48 ∨ 57 < s then (if s = 41 then (t_close c p o 0 w) else (if (t_rank s) < 1 then ((c, p, o, 0, w), false) else (if (t_rank s) < 6 then (if (t_rank s) = 3 then (if (t_rank s) = 3 then (if (t_rank ((t_stl ((t_rank s) + 1) c p o).2.1.headD 0)) = 3 then (((t_stl ((t_rank s) + 1) c p o).1, (t_stl ((t_rank s) + 1) c p o).2.1, (t_stl ((t_rank s) + 1) c p o).2.2, 0, w), false) else (((t_stl ((t_rank s) + 1) c p o).1, (s :: (t_stl ((t_rank s) + 1) c p o).2.1), (t_stl ((t_rank s) + 1) c p o).2.2, 0, true), true)) else (((t_stl ((t_rank s) + 1) c p o).1, (s :: (t_stl ((t_rank s) + 1) c p o).2.1), (t_stl ((t_rank s) + 1) c p o).2.2, 0, true), true)) else (if (t_rank s) = 3 then (if (t_rank ((t_stl (t_rank s) c p o).2.1.headD 0)) = 3 then (((t_stl (t_rank s) c p o).1, (t_stl (t_rank s) c p o).2.1, (t_stl (t_rank s) c p o).2.2, 0, w), false) else (((t_stl (t_rank s) c p o).1, (s :: (t_stl (t_rank s) c p o).2.1), (t_stl (t_rank s) c p o).2.2, 0, true), true)) else (((t_stl (t_rank s) c p o).1, (s :: (t_stl (t_rank s) c p o).2.1), (t_stl (t_rank s) c p o).2.2, 0, true), true))) else ((c, p, o, 0, w), false)))) else (t_dgt (s - 48) c p o d w))
theorem ct_goOn {Z N : Nat → Int32} {F : Nat → Nat → Int32} {c p : List Int32} {o d : Int32} {w : Bool} {k : Nat} (h : t_rep Z N F c p o d w k) (hk : k < 60) (s : Int32) : px_PM 4 16 [.ref 55, .int s] (px_CH Z N F, []) (fun r h' => r = some (.int (if (t_goOn s c p o d w).2 = true then 1 else 0)) ∧ ∃ (Z' N' : Nat → Int32) (F' : Nat → Nat → Int32), h' = (px_CH Z' N' F', []) ∧ t_rp Z' N' F' (t_goOn s c p o d w).1 (k + 1) ∧ t_same Z N F Z' N' F') := by
  refine px_PM.start (nL := 3) (code := pc_16) rfl rfl ?_
  refine px_PW.steps kt_16.2 1 rfl ?_
  refine px_PW.callS kt_16.2 rfl rfl rfl (ct_digit _ _) (by decide) (fun v h1 q => ?_)
  obtain ⟨rfl, rfl⟩ := q
  refine px_PW.steps kt_16.2 1 rfl ?_
  refine px_PW.br (fun c0 => ?_) (fun c0 => ?_)
  · have c0 : s < 48 ∨ 57 < s := px_b0z (of_decide_eq_true c0)
    refine px_PW.steps kt_16.2 2 rfl ?_
    refine px_op_16 kt_16.2 rfl ?_
    refine px_PW.steps kt_16.2 3 rfl ?_
    refine px_PW.br (fun c1 => ?_) (fun c1 => ?_)
    · have c1 : ¬ (s = 41) := of_decide_eq_false (px_nt c1)
      refine px_PW.steps kt_16.2 1 rfl ?_
      refine px_PW.callS kt_16.2 rfl rfl rfl (ct_rank _ _) (by decide) (fun v h1 q => ?_)
      obtain ⟨rfl, rfl⟩ := q
      refine px_PW.steps kt_16.2 4 rfl ?_
      refine px_PW.br (fun c2 => ?_) (fun c2 => ?_)
      · have c2 : (t_rank s) < 1 := of_decide_eq_true c2
        refine px_PW.steps kt_16.2 1 rfl ?_
        refine px_PW.ret kt_16.2 rfl rfl ?_
        have E : t_goOn s c p o d w = ((c, p, o, 0, w), false) := (if_pos c0).trans ((if_neg c1).trans (if_pos c2))
        rw [E]
        exact ⟨rfl, _, _, _, rfl, (((h).dx 0)).up hk, (t_same.rf.tr (t_same.z (k := 16) (by omega)))⟩
      · have c2 : ¬ ((t_rank s) < 1) := of_decide_eq_false c2
        refine px_PW.steps kt_16.2 3 rfl ?_
        refine px_PW.br (fun c3 => ?_) (fun c3 => ?_)
        · have c3 : (t_rank s) < 6 := of_decide_eq_true c3
          refine px_PW.steps kt_16.2 4 rfl ?_
          refine px_PW.br (fun c4 => ?_) (fun c4 => ?_)
          · have c4 : ¬ ((t_rank s) = 3) := of_decide_eq_false (px_nt c4)
            refine px_PW.steps kt_16.2 1 rfl ?_
            refine px_PW.callV kt_16.2 rfl rfl rfl rfl (ct_settle (((h).dx 0)) _) (by decide) (fun v h1 q => ?_)
            obtain ⟨rfl, Z7, N7, F7, rfl, r7, s7⟩ := q
            refine px_PW.steps kt_16.2 3 rfl ?_
            refine px_PW.br (fun c5 => ?_) (fun c5 => ?_)
            · have c5 : ¬ ((t_rank s) = 3) := of_decide_eq_false (px_nt c5)
              refine px_PW.steps kt_16.2 3 rfl ?_
              refine px_PW.callV kt_16.2 rfl rfl rfl rfl (ct_push24 (r7) hk _) (by decide) (fun v h1 q => ?_)
              obtain ⟨rfl, Z8, N8, F8, rfl, r8, s8⟩ := q
              refine px_PW.steps kt_16.2 2 rfl ?_
              refine px_op_17 kt_16.2 (by rfl) rfl ?_
              refine px_PW.steps kt_16.2 1 rfl ?_
              refine px_PW.ret kt_16.2 rfl rfl ?_
              have E : t_goOn s c p o d w = (((t_stl (t_rank s) c p o).1, (s :: (t_stl (t_rank s) c p o).2.1), (t_stl (t_rank s) c p o).2.2, 0, true), true) := (if_pos c0).trans ((if_neg c1).trans ((if_neg c2).trans ((if_pos c3).trans ((if_neg c4).trans (if_neg c5)))))
              rw [E]
              exact ⟨rfl, _, _, _, rfl, (r8).w1, ((((t_same.rf.tr (t_same.z (k := 16) (by omega))).tr s7).tr s8).tr (t_same.z (k := 17) (by omega)))⟩
            · have c5 : (t_rank s) = 3 := of_decide_eq_true (px_nf c5)
              refine px_PW.steps kt_16.2 4 rfl ?_
              refine px_PW.callV kt_16.2 rfl rfl rfl rfl (ct_size (r7)) (by decide) (fun v h1 q => ?_)
              obtain ⟨rfl, rfl⟩ := q
              refine px_PW.steps kt_16.2 2 rfl ?_
              refine px_PW.callV kt_16.2 rfl rfl rfl rfl (ct_top (r7)) (by decide) (fun v h1 q => ?_)
              obtain ⟨rfl, rfl⟩ := q
              refine px_PW.callS kt_16.2 rfl rfl rfl (ct_rank _ _) (by decide) (fun v h1 q => ?_)
              obtain ⟨rfl, rfl⟩ := q
              refine px_PW.steps kt_16.2 2 rfl ?_
              refine px_PW.br (fun c6 => ?_) (fun c6 => ?_)
              · have c6 : ¬ ((t_rank ((t_stl (t_rank s) c p o).2.1.headD 0)) = 3) := of_decide_eq_false (px_nt c6)
                refine px_PW.steps kt_16.2 3 rfl ?_
                refine px_PW.callV kt_16.2 rfl rfl rfl rfl (ct_push24 (r7) hk _) (by decide) (fun v h1 q => ?_)
                obtain ⟨rfl, Z9, N9, F9, rfl, r9, s9⟩ := q
                refine px_PW.steps kt_16.2 2 rfl ?_
                refine px_op_17 kt_16.2 (by rfl) rfl ?_
                refine px_PW.steps kt_16.2 1 rfl ?_
                refine px_PW.ret kt_16.2 rfl rfl ?_
                have E : t_goOn s c p o d w = (((t_stl (t_rank s) c p o).1, (s :: (t_stl (t_rank s) c p o).2.1), (t_stl (t_rank s) c p o).2.2, 0, true), true) := (if_pos c0).trans ((if_neg c1).trans ((if_neg c2).trans ((if_pos c3).trans ((if_neg c4).trans ((if_pos c5).trans (if_neg c6))))))
                rw [E]
                exact ⟨rfl, _, _, _, rfl, (r9).w1, ((((t_same.rf.tr (t_same.z (k := 16) (by omega))).tr s7).tr s9).tr (t_same.z (k := 17) (by omega)))⟩
              · have c6 : (t_rank ((t_stl (t_rank s) c p o).2.1.headD 0)) = 3 := of_decide_eq_true (px_nf c6)
                refine px_PW.steps kt_16.2 1 rfl ?_
                refine px_PW.ret kt_16.2 rfl rfl ?_
                have E : t_goOn s c p o d w = (((t_stl (t_rank s) c p o).1, (t_stl (t_rank s) c p o).2.1, (t_stl (t_rank s) c p o).2.2, 0, w), false) := (if_pos c0).trans ((if_neg c1).trans ((if_neg c2).trans ((if_pos c3).trans ((if_neg c4).trans ((if_pos c5).trans (if_pos c6))))))
                rw [E]
                exact ⟨rfl, _, _, _, rfl, (r7).up hk, ((t_same.rf.tr (t_same.z (k := 16) (by omega))).tr s7)⟩
          · have c4 : (t_rank s) = 3 := of_decide_eq_true (px_nf c4)
            refine px_PW.steps kt_16.2 4 rfl ?_
            refine px_PW.callV kt_16.2 rfl rfl rfl rfl (ct_settle (((h).dx 0)) _) (by decide) (fun v h1 q => ?_)
            obtain ⟨rfl, Z10, N10, F10, rfl, r10, s10⟩ := q
            refine px_PW.steps kt_16.2 3 rfl ?_
            refine px_PW.br (fun c7 => ?_) (fun c7 => ?_)
            · have c7 : ¬ ((t_rank s) = 3) := of_decide_eq_false (px_nt c7)
              refine px_PW.steps kt_16.2 3 rfl ?_
              refine px_PW.callV kt_16.2 rfl rfl rfl rfl (ct_push24 (r10) hk _) (by decide) (fun v h1 q => ?_)
              obtain ⟨rfl, Z11, N11, F11, rfl, r11, s11⟩ := q
              refine px_PW.steps kt_16.2 2 rfl ?_
              refine px_op_17 kt_16.2 (by rfl) rfl ?_
              refine px_PW.steps kt_16.2 1 rfl ?_
              refine px_PW.ret kt_16.2 rfl rfl ?_
              have E : t_goOn s c p o d w = (((t_stl ((t_rank s) + 1) c p o).1, (s :: (t_stl ((t_rank s) + 1) c p o).2.1), (t_stl ((t_rank s) + 1) c p o).2.2, 0, true), true) := (if_pos c0).trans ((if_neg c1).trans ((if_neg c2).trans ((if_pos c3).trans ((if_pos c4).trans (if_neg c7)))))
              rw [E]
              exact ⟨rfl, _, _, _, rfl, (r11).w1, ((((t_same.rf.tr (t_same.z (k := 16) (by omega))).tr s10).tr s11).tr (t_same.z (k := 17) (by omega)))⟩
            · have c7 : (t_rank s) = 3 := of_decide_eq_true (px_nf c7)
              refine px_PW.steps kt_16.2 4 rfl ?_
              refine px_PW.callV kt_16.2 rfl rfl rfl rfl (ct_size (r10)) (by decide) (fun v h1 q => ?_)
              obtain ⟨rfl, rfl⟩ := q
              refine px_PW.steps kt_16.2 2 rfl ?_
              refine px_PW.callV kt_16.2 rfl rfl rfl rfl (ct_top (r10)) (by decide) (fun v h1 q => ?_)
              obtain ⟨rfl, rfl⟩ := q
              refine px_PW.callS kt_16.2 rfl rfl rfl (ct_rank _ _) (by decide) (fun v h1 q => ?_)
              obtain ⟨rfl, rfl⟩ := q
              refine px_PW.steps kt_16.2 2 rfl ?_
              refine px_PW.br (fun c8 => ?_) (fun c8 => ?_)
              · have c8 : ¬ ((t_rank ((t_stl ((t_rank s) + 1) c p o).2.1.headD 0)) = 3) := of_decide_eq_false (px_nt c8)
                refine px_PW.steps kt_16.2 3 rfl ?_
                refine px_PW.callV kt_16.2 rfl rfl rfl rfl (ct_push24 (r10) hk _) (by decide) (fun v h1 q => ?_)
                obtain ⟨rfl, Z12, N12, F12, rfl, r12, s12⟩ := q
                refine px_PW.steps kt_16.2 2 rfl ?_
                refine px_op_17 kt_16.2 (by rfl) rfl ?_
                refine px_PW.steps kt_16.2 1 rfl ?_
                refine px_PW.ret kt_16.2 rfl rfl ?_
                have E : t_goOn s c p o d w = (((t_stl ((t_rank s) + 1) c p o).1, (s :: (t_stl ((t_rank s) + 1) c p o).2.1), (t_stl ((t_rank s) + 1) c p o).2.2, 0, true), true) := (if_pos c0).trans ((if_neg c1).trans ((if_neg c2).trans ((if_pos c3).trans ((if_pos c4).trans ((if_pos c7).trans (if_neg c8))))))
                rw [E]
                exact ⟨rfl, _, _, _, rfl, (r12).w1, ((((t_same.rf.tr (t_same.z (k := 16) (by omega))).tr s10).tr s12).tr (t_same.z (k := 17) (by omega)))⟩
              · have c8 : (t_rank ((t_stl ((t_rank s) + 1) c p o).2.1.headD 0)) = 3 := of_decide_eq_true (px_nf c8)
                refine px_PW.steps kt_16.2 1 rfl ?_
                refine px_PW.ret kt_16.2 rfl rfl ?_
                have E : t_goOn s c p o d w = (((t_stl ((t_rank s) + 1) c p o).1, (t_stl ((t_rank s) + 1) c p o).2.1, (t_stl ((t_rank s) + 1) c p o).2.2, 0, w), false) := (if_pos c0).trans ((if_neg c1).trans ((if_neg c2).trans ((if_pos c3).trans ((if_pos c4).trans ((if_pos c7).trans (if_pos c8))))))
                rw [E]
                exact ⟨rfl, _, _, _, rfl, (r10).up hk, ((t_same.rf.tr (t_same.z (k := 16) (by omega))).tr s10)⟩
        · have c3 : ¬ ((t_rank s) < 6) := of_decide_eq_false c3
          refine px_PW.steps kt_16.2 1 rfl ?_
          refine px_PW.ret kt_16.2 rfl rfl ?_
          have E : t_goOn s c p o d w = ((c, p, o, 0, w), false) := (if_pos c0).trans ((if_neg c1).trans ((if_neg c2).trans (if_neg c3)))
          rw [E]
          exact ⟨rfl, _, _, _, rfl, (((h).dx 0)).up hk, (t_same.rf.tr (t_same.z (k := 16) (by omega)))⟩
    · have c1 : s = 41 := of_decide_eq_true (px_nf c1)
      refine px_PW.steps kt_16.2 1 rfl ?_
      refine px_PW.callV kt_16.2 rfl rfl rfl rfl (ct_close (((h).dx 0)) hk) (by decide) (fun v h1 q => ?_)
      obtain ⟨rfl, Z13, N13, F13, rfl, r13, s13⟩ := q
      refine px_PW.retB kt_16.2 rfl px_zb1 ?_
      have E : t_goOn s c p o d w = (t_close c p o 0 w) := (if_pos c0).trans (if_pos c1)
      rw [E]
      exact ⟨rfl, _, _, _, rfl, r13, ((t_same.rf.tr (t_same.z (k := 16) (by omega))).tr s13)⟩
  · have c0 : ¬ (s < 48 ∨ 57 < s) := px_b0n (of_decide_eq_false c0)
    refine px_PW.steps kt_16.2 4 rfl ?_
    refine px_PW.callV kt_16.2 rfl rfl rfl rfl (ct_dgt (h) hk _) (by decide) (fun v h1 q => ?_)
    obtain ⟨rfl, Z14, N14, F14, rfl, r14, s14⟩ := q
    refine px_PW.retB kt_16.2 rfl px_zb1 ?_
    have E : t_goOn s c p o d w = (t_dgt (s - 48) c p o d w) := if_neg c0
    rw [E]
    exact ⟨rfl, _, _, _, rfl, r14, (t_same.rf.tr s14)⟩
theorem jk_indexS {u : Nat} (hu : u ≤ 1) (s : Int32) (h : px_H) : px_PM 5 207 [.ref (t_nm u), .int ((s.toUInt32 % 65536).toInt32)] h (fun r h' => r = some (.int (t_ix u ((s.toUInt32 % 65536).toInt32))) ∧ h' = h) := by
  obtain ⟨n, hn, e⟩ := jk_i2c s
  rw [e]
  exact jk_index hu hn h
def t_begin (u : Nat) (s : Int32) (c p : List Int32) (o d : Int32) (w : Bool) : t_R × Bool := (if s = 33 then (if 5 < (o + 1) then ((c, (s :: p), (o + 1), d, w), false) else ((c, (s :: p), (o + 1), d, w), true)) else (if s = 40 then (if 5 < (o + 1) then ((c, (s :: p), (o + 1), d, w), false) else ((c, (s :: p), (o + 1), d, w), true)) else (if s < 48 ∨ 57 < s then (if (t_ix u ((s).toUInt32 % 65536).toInt32) < 0 then (((((-1) - (t_ix u ((s).toUInt32 % 65536).toInt32)) :: c), p, o, d, false), false) else (((((-1) - (t_ix u ((s).toUInt32 % 65536).toInt32)) :: c), p, o, d, false), true)) else ((((s - 48) :: c), p, o, 1, false), true))))
theorem ct_begin {Z N : Nat → Int32} {F : Nat → Nat → Int32} {c p : List Int32} {o d : Int32} {w : Bool} {k : Nat} (h : t_rep Z N F c p o d w k) (hk : k < 60) {u : Nat} (hu : u ≤ 1) (s : Int32) : px_PM 6 15 [.ref 55, .int s, .ref (t_nm u)] (px_CH Z N F, []) (fun r h' => r = some (.int (if (t_begin u s c p o d w).2 = true then 1 else 0)) ∧ ∃ (Z' N' : Nat → Int32) (F' : Nat → Nat → Int32), h' = (px_CH Z' N' F', []) ∧ t_rp Z' N' F' (t_begin u s c p o d w).1 (k + 1) ∧ t_same Z N F Z' N' F') := by
  refine px_PM.start (nL := 4) (code := pc_15) rfl rfl ?_
  refine px_PW.steps kt_15.2 3 rfl ?_
  refine px_PW.br (fun c0 => ?_) (fun c0 => ?_)
  · have c0 : s = 33 := of_decide_eq_true c0
    refine px_PW.steps kt_15.2 3 rfl ?_
    refine px_PW.callV kt_15.2 rfl rfl rfl rfl (ct_push24 (h) hk _) (by decide) (fun v h1 q => ?_)
    obtain ⟨rfl, Z15, N15, F15, rfl, r15, s15⟩ := q
    refine px_PW.steps kt_15.2 5 rfl ?_
    refine px_op_15 kt_15.2 rfl ?_
    refine px_PW.steps kt_15.2 4 rfl ?_
    refine px_PW.br (fun c1 => ?_) (fun c1 => ?_)
    · have c1 : 5 < ((Z15 15) + 1) := of_decide_eq_true c1
      rw [show Z15 15 = o from (r15).ho] at c1
      refine px_PW.steps kt_15.2 1 rfl ?_
      refine px_PW.ret kt_15.2 rfl rfl ?_
      have E : t_begin u s c p o d w = ((c, (s :: p), (o + 1), d, w), false) := (if_pos c0).trans (if_pos c1)
      rw [E]
      exact ⟨rfl, _, _, _, rfl, (r15).o1, ((t_same.rf.tr s15).tr (t_same.z (k := 15) (by omega)))⟩
    · have c1 : ¬ (5 < ((Z15 15) + 1)) := of_decide_eq_false c1
      rw [show Z15 15 = o from (r15).ho] at c1
      refine px_PW.steps kt_15.2 2 rfl ?_
      refine px_PW.ret kt_15.2 rfl rfl ?_
      have E : t_begin u s c p o d w = ((c, (s :: p), (o + 1), d, w), true) := (if_pos c0).trans (if_neg c1)
      rw [E]
      exact ⟨rfl, _, _, _, rfl, (r15).o1, ((t_same.rf.tr s15).tr (t_same.z (k := 15) (by omega)))⟩
  · have c0 : ¬ (s = 33) := of_decide_eq_false c0
    refine px_PW.steps kt_15.2 3 rfl ?_
    refine px_PW.br (fun c2 => ?_) (fun c2 => ?_)
    · have c2 : ¬ (s = 40) := of_decide_eq_false (px_nt c2)
      refine px_PW.steps kt_15.2 2 rfl ?_
      refine px_op_17 kt_15.2 (by rfl) rfl ?_
      refine px_PW.steps kt_15.2 1 rfl ?_
      refine px_PW.callS kt_15.2 rfl rfl rfl (ct_digit _ _) (by decide) (fun v h1 q => ?_)
      obtain ⟨rfl, rfl⟩ := q
      refine px_PW.steps kt_15.2 1 rfl ?_
      refine px_PW.br (fun c3 => ?_) (fun c3 => ?_)
      · have c3 : s < 48 ∨ 57 < s := px_b0z (of_decide_eq_true c3)
        refine px_PW.steps kt_15.2 3 rfl ?_
        refine px_PW.callK kt_15.2 rfl rfl (by rcases (show u = 0 ∨ u = 1 by omega) with rfl | rfl <;> rfl) rfl (jk_indexS hu s _) (by decide) (fun v h1 q => ?_)
        obtain ⟨rfl, rfl⟩ := q
        refine px_PW.steps kt_15.2 6 rfl ?_
        refine px_PW.callV kt_15.2 rfl rfl rfl rfl (ct_push23 ((h).w0) hk _) (by decide) (fun v h1 q => ?_)
        obtain ⟨rfl, Z16, N16, F16, rfl, r16, s16⟩ := q
        refine px_PW.steps kt_15.2 2 rfl ?_
        refine px_PW.br (fun c4 => ?_) (fun c4 => ?_)
        · have c4 : (t_ix u ((s).toUInt32 % 65536).toInt32) < 0 := of_decide_eq_true c4
          refine px_PW.steps kt_15.2 1 rfl ?_
          refine px_PW.ret kt_15.2 rfl rfl ?_
          have E : t_begin u s c p o d w = (((((-1) - (t_ix u ((s).toUInt32 % 65536).toInt32)) :: c), p, o, d, false), false) := (if_neg c0).trans ((if_neg c2).trans ((if_pos c3).trans (if_pos c4)))
          rw [E]
          exact ⟨rfl, _, _, _, rfl, r16, ((t_same.rf.tr (t_same.z (k := 17) (by omega))).tr s16)⟩
        · have c4 : ¬ ((t_ix u ((s).toUInt32 % 65536).toInt32) < 0) := of_decide_eq_false c4
          refine px_PW.steps kt_15.2 2 rfl ?_
          refine px_PW.ret kt_15.2 rfl rfl ?_
          have E : t_begin u s c p o d w = (((((-1) - (t_ix u ((s).toUInt32 % 65536).toInt32)) :: c), p, o, d, false), true) := (if_neg c0).trans ((if_neg c2).trans ((if_pos c3).trans (if_neg c4)))
          rw [E]
          exact ⟨rfl, _, _, _, rfl, r16, ((t_same.rf.tr (t_same.z (k := 17) (by omega))).tr s16)⟩
      · have c3 : ¬ (s < 48 ∨ 57 < s) := px_b0n (of_decide_eq_false c3)
        refine px_PW.steps kt_15.2 5 rfl ?_
        refine px_PW.callV kt_15.2 rfl rfl rfl rfl (ct_push23 ((h).w0) hk _) (by decide) (fun v h1 q => ?_)
        obtain ⟨rfl, Z17, N17, F17, rfl, r17, s17⟩ := q
        refine px_PW.steps kt_15.2 2 rfl ?_
        refine px_op_16 kt_15.2 rfl ?_
        refine px_PW.steps kt_15.2 1 rfl ?_
        refine px_PW.ret kt_15.2 rfl rfl ?_
        have E : t_begin u s c p o d w = ((((s - 48) :: c), p, o, 1, false), true) := (if_neg c0).trans ((if_neg c2).trans (if_neg c3))
        rw [E]
        exact ⟨rfl, _, _, _, rfl, ((r17).dx 1), (((t_same.rf.tr (t_same.z (k := 17) (by omega))).tr s17).tr (t_same.z (k := 16) (by omega)))⟩
    · have c2 : s = 40 := of_decide_eq_true (px_nf c2)
      refine px_PW.steps kt_15.2 3 rfl ?_
      refine px_PW.callV kt_15.2 rfl rfl rfl rfl (ct_push24 (h) hk _) (by decide) (fun v h1 q => ?_)
      obtain ⟨rfl, Z18, N18, F18, rfl, r18, s18⟩ := q
      refine px_PW.steps kt_15.2 5 rfl ?_
      refine px_op_15 kt_15.2 rfl ?_
      refine px_PW.steps kt_15.2 4 rfl ?_
      refine px_PW.br (fun c5 => ?_) (fun c5 => ?_)
      · have c5 : 5 < ((Z18 15) + 1) := of_decide_eq_true c5
        rw [show Z18 15 = o from (r18).ho] at c5
        refine px_PW.steps kt_15.2 1 rfl ?_
        refine px_PW.ret kt_15.2 rfl rfl ?_
        have E : t_begin u s c p o d w = ((c, (s :: p), (o + 1), d, w), false) := (if_neg c0).trans ((if_pos c2).trans (if_pos c5))
        rw [E]
        exact ⟨rfl, _, _, _, rfl, (r18).o1, ((t_same.rf.tr s18).tr (t_same.z (k := 15) (by omega)))⟩
      · have c5 : ¬ (5 < ((Z18 15) + 1)) := of_decide_eq_false c5
        rw [show Z18 15 = o from (r18).ho] at c5
        refine px_PW.steps kt_15.2 2 rfl ?_
        refine px_PW.ret kt_15.2 rfl rfl ?_
        have E : t_begin u s c p o d w = ((c, (s :: p), (o + 1), d, w), true) := (if_neg c0).trans ((if_pos c2).trans (if_neg c5))
        rw [E]
        exact ⟨rfl, _, _, _, rfl, (r18).o1, ((t_same.rf.tr s18).tr (t_same.z (k := 15) (by omega)))⟩
end
/-! part 66.t5.ctext2 -/
section
/-! the class's read and text (66.t5: ctext2.py) -/
def t_sign (u : Nat) (s : Int32) (R : t_R) : t_R × Bool := if R.2.2.2.2 = true then t_begin u s R.1 R.2.1 R.2.2.1 R.2.2.2.1 R.2.2.2.2 else t_goOn s R.1 R.2.1 R.2.2.1 R.2.2.2.1 R.2.2.2.2
/-- signs from place i on, so many; the place of the one that does not go on -/
def t_run (u : Nat) (T : Nat → Int32) : Nat → Nat → t_R → t_R × Option Nat
  | 0, _, R => (R, none)
  | m + 1, i, R => if (t_sign u (T i) R).2 = true then t_run u T m (i + 1) (t_sign u (T i) R).1 else ((t_sign u (T i) R).1, some i)
theorem t_run_y {u : Nat} {T : Nat → Int32} {m i : Nat} {R : t_R} {X : t_R × Bool} (e : t_sign u (T i) R = X) (c : X.2 = true) : t_run u T (m + 1) i R = t_run u T m (i + 1) X.1 := by
  subst e
  exact if_pos c
theorem t_run_n {u : Nat} {T : Nat → Int32} {m i : Nat} {R : t_R} {X : t_R × Bool} (e : t_sign u (T i) R = X) (c : ¬ (X.2 = true)) : t_run u T (m + 1) i R = (X.1, some i) := by
  subst e
  exact if_neg c
def t_fin (r : t_R × Option Nat) : t_R := match r.2 with
  | some _ => r.1
  | none => ((t_stl 1 r.1.1 r.1.2.1 r.1.2.2.1).1, (t_stl 1 r.1.1 r.1.2.1 r.1.2.2.1).2.1, (t_stl 1 r.1.1 r.1.2.1 r.1.2.2.1).2.2, r.1.2.2.2.1, r.1.2.2.2.2)
def t_end (P : Nat) (r : t_R × Option Nat) : Int32 := match r.2 with
  | some j => nI j
  | none => if r.1.2.2.2.2 = true then nI P else if nI (t_stl 1 r.1.1 r.1.2.1 r.1.2.2.1).2.1.length ≤ 0 then -1 else nI P
theorem ct_tsize {Z N : Nat → Int32} {F : Nat → Nat → Int32} {P : Nat} (h : N 5 = nI P) : px_PM 1 2 [.ref 12] (px_CH Z N F, []) (fun r h' => r = some (.int (nI P)) ∧ h' = (px_CH Z N F, [])) := by
  have g := nb_size (Z := Z) (N := N) (F := F) (q := 5) (by decide)
  rw [h] at g
  exact g
theorem ct_tget {Z N : Nat → Int32} {F : Nat → Nat → Int32} {P i : Nat} {T : Nat → Int32} (h : N 5 = nI P) (hP : P ≤ 60) (hT : ∀ j : Nat, j < P → F 5 j = T j) (hi : i < P) : px_PM 1 6 [.ref 12, .int (nI i)] (px_CH Z N F, []) (fun r h' => r = some (.int (T i)) ∧ h' = (px_CH Z N F, [])) := by
  have g := nb_getN (Z := Z) (N := N) (F := F) (q := 5) (by decide) h (show P ≤ px_lim 5 from hP) hi
  rw [hT i hi] at g
  exact g
/-- what reading leaves -/
def t_rdQ (Z N : Nat → Int32) (F : Nat → Nat → Int32) (P : Nat) (x : t_R × Option Nat) : Option Value → px_H → Prop := fun r h' => r = some (.int (t_end P x)) ∧ ∃ (Z' N' : Nat → Int32) (F' : Nat → Nat → Int32), h' = (px_CH Z' N' F', []) ∧ t_rp Z' N' F' (t_fin x) 60 ∧ t_same Z N F Z' N' F'
theorem t_rep.k60 {Z N : Nat → Int32} {F : Nat → Nat → Int32} {c p : List Int32} {o d : Int32} {w : Bool} {k : Nat} (h : t_rep Z N F c p o d w k) : t_rep Z N F c p o d w 60 := ⟨h.1, h.2.1, h.2.2.1, h.2.2.2.1, Nat.le_trans h.2.2.2.2.1 h.2.2.2.2.2, Nat.le_refl 60⟩
theorem t_rdQ.tr {Z N Z1 N1 : Nat → Int32} {F F1 : Nat → Nat → Int32} {P : Nat} {x : t_R × Option Nat} (s : t_same Z N F Z1 N1 F1) {r : Option Value} {h' : px_H} (q : t_rdQ Z1 N1 F1 P x r h') : t_rdQ Z N F P x r h' := by
  obtain ⟨q1, Z', N', F', q2, q3, q4⟩ := q
  exact ⟨q1, Z', N', F', q2, q3, s.tr q4⟩
theorem ct_read_loop {P u : Nat} {T : Nat → Int32} (hP : P ≤ 60) (hu : u ≤ 1) : ∀ (m i : Nat) (R : t_R) (Z N : Nat → Int32) (F : Nat → Nat → Int32) (w4 w5 : Option Value), i + m = P → N 5 = nI P → (∀ j : Nat, j < P → F 5 j = T j) → t_rp Z N F R i → px_PW 6 pc_14 (t_rdQ Z N F P (t_run u T m i R)) 31 [some (.ref 55), some (.ref 12), some (.ref (t_nm u)), some (.int (nI i)), w4, w5] [] (px_CH Z N F, [])
  | m, i, R, Z, N, F, w4, w5, hm, hN, hT, h0 => by
    have h : t_rep Z N F R.1 R.2.1 R.2.2.1 R.2.2.2.1 R.2.2.2.2 i := h0
    refine px_PW.steps kt_14.2 2 rfl ?_
    refine px_PW.callV kt_14.2 rfl rfl rfl rfl (ct_tsize (((t_same.rf (Z := Z) (N := N) (F := F)).2.1 5 (by omega)).trans hN)) (by decide) (fun v h1 q => ?_)
    obtain ⟨rfl, rfl⟩ := q
    refine px_PW.steps kt_14.2 1 rfl ?_
    refine px_PW.br (fun c0 => ?_) (fun c0 => ?_)
    · have c0 : (nI P) ≤ (nI i) := of_decide_eq_true c0
      have c0 : P ≤ i := (nI_leI (a := P) (b := i) (by omega) (by omega)).mp c0
      obtain rfl : m = 0 := by omega
      refine px_PW.steps kt_14.2 2 rfl ?_
      refine px_PW.callV kt_14.2 rfl rfl rfl rfl (ct_settle (h) _) (by decide) (fun v h1 q => ?_)
      obtain ⟨rfl, Z19, N19, F19, rfl, r19, s19⟩ := q
      refine px_PW.steps kt_14.2 3 rfl ?_
      refine px_PW.br (fun c1 => ?_) (fun c1 => ?_)
      · have c1 : ¬ ((Z19 17) = 0) := of_decide_eq_false (px_nt c1)
        rw [show Z19 17 = if R.2.2.2.2 = true then 1 else 0 from (r19).hw] at c1
        have c1 := px_b1n c1
        refine px_PW.steps kt_14.2 1 rfl ?_
        refine px_PW.callV kt_14.2 rfl rfl rfl rfl (ct_tsize ((((t_same.rf (Z := Z) (N := N) (F := F)).tr s19).2.1 5 (by omega)).trans hN)) (by decide) (fun v h1 q => ?_)
        obtain ⟨rfl, rfl⟩ := q
        refine px_PW.steps kt_14.2 1 rfl ?_
        refine px_PW.ret kt_14.2 rfl rfl ?_
        have E : t_end P (R, none) = (nI P) := (if_pos c1)
        exact ⟨congrArg (fun z => some (Value.int z)) E.symm, _, _, _, rfl, (r19).k60, ((t_same.rf (Z := Z) (N := N) (F := F)).tr s19)⟩
      · have c1 : (Z19 17) = 0 := of_decide_eq_true (px_nf c1)
        rw [show Z19 17 = if R.2.2.2.2 = true then 1 else 0 from (r19).hw] at c1
        have c1 := px_b1z c1
        refine px_PW.steps kt_14.2 2 rfl ?_
        refine px_PW.callV kt_14.2 rfl rfl rfl rfl (ct_size (r19)) (by decide) (fun v h1 q => ?_)
        obtain ⟨rfl, rfl⟩ := q
        refine px_PW.steps kt_14.2 1 rfl ?_
        refine px_PW.br (fun c2 => ?_) (fun c2 => ?_)
        · have c2 : (nI (t_stl 1 R.1 R.2.1 R.2.2.1).2.1.length) ≤ 0 := of_decide_eq_true c2
          refine px_PW.steps kt_14.2 1 rfl ?_
          refine px_PW.ret kt_14.2 rfl rfl ?_
          have E : t_end P (R, none) = (-1) := (if_neg c1).trans (if_pos c2)
          exact ⟨congrArg (fun z => some (Value.int z)) E.symm, _, _, _, rfl, (r19).k60, ((t_same.rf (Z := Z) (N := N) (F := F)).tr s19)⟩
        · have c2 : ¬ ((nI (t_stl 1 R.1 R.2.1 R.2.2.1).2.1.length) ≤ 0) := of_decide_eq_false c2
          refine px_PW.steps kt_14.2 1 rfl ?_
          refine px_PW.callV kt_14.2 rfl rfl rfl rfl (ct_tsize ((((t_same.rf (Z := Z) (N := N) (F := F)).tr s19).2.1 5 (by omega)).trans hN)) (by decide) (fun v h1 q => ?_)
          obtain ⟨rfl, rfl⟩ := q
          refine px_PW.steps kt_14.2 1 rfl ?_
          refine px_PW.ret kt_14.2 rfl rfl ?_
          have E : t_end P (R, none) = (nI P) := (if_neg c1).trans (if_neg c2)
          exact ⟨congrArg (fun z => some (Value.int z)) E.symm, _, _, _, rfl, (r19).k60, ((t_same.rf (Z := Z) (N := N) (F := F)).tr s19)⟩
    · have c0 : ¬ ((nI P) ≤ (nI i)) := of_decide_eq_false c0
      have c0 : ¬ (P ≤ i) := fun q => c0 ((nI_leI (a := P) (b := i) (by omega) (by omega)).mpr q)
      obtain ⟨m2, rfl⟩ : ∃ m2, m = m2 + 1 := ⟨m - 1, by omega⟩
      refine px_PW.steps kt_14.2 2 rfl ?_
      refine px_PW.callV kt_14.2 rfl rfl rfl rfl (ct_tget hN hP hT (by omega)) (by decide) (fun v h1 q => ?_)
      obtain ⟨rfl, rfl⟩ := q
      refine px_PW.steps kt_14.2 4 rfl ?_
      refine px_PW.br (fun c3 => ?_) (fun c3 => ?_)
      · have c3 : (Z 17) = 0 := of_decide_eq_true c3
        rw [show Z 17 = if R.2.2.2.2 = true then 1 else 0 from (h).hw] at c3
        have c3 := px_b1z c3
        refine px_PW.steps kt_14.2 2 rfl ?_
        refine px_PW.callV kt_14.2 rfl rfl rfl rfl (ct_goOn (h) (by omega) _) (by decide) (fun v h1 q => ?_)
        obtain ⟨rfl, Z20, N20, F20, rfl, r20, s20⟩ := q
        refine px_PW.steps kt_14.2 3 rfl ?_
        refine px_PW.br (fun c4 => ?_) (fun c4 => ?_)
        · have c4 : (t_goOn (T i) R.1 R.2.1 R.2.2.1 R.2.2.2.1 R.2.2.2.2).2 = true := px_b1n (of_decide_eq_false (px_nt c4))
          have eS : t_sign u (T i) R = (t_goOn (T i) R.1 R.2.1 R.2.2.1 R.2.2.2.1 R.2.2.2.2) := if_neg c3
          have e0 : t_run u T (m2 + 1) i R = t_run u T m2 (i + 1) ((t_goOn (T i) R.1 R.2.1 R.2.2.1 R.2.2.2.1 R.2.2.2.2)).1 := t_run_y eS c4
          refine px_PW.steps kt_14.2 2 rfl ?_
          rw [e0]
          have g := ct_read_loop (T := T) hP hu m2 (i + 1) ((t_goOn (T i) R.1 R.2.1 R.2.2.1 R.2.2.2.1 R.2.2.2.2)).1 Z20 N20 F20 (some (.int (T i))) (some (.int (if (t_goOn (T i) R.1 R.2.1 R.2.2.1 R.2.2.2.1 R.2.2.2.2).2 = true then 1 else 0 : Int32))) (by omega) ((((t_same.rf (Z := Z) (N := N) (F := F)).tr s20).2.1 5 (by omega)).trans hN) (fun j hj => (congrFun (((t_same.rf (Z := Z) (N := N) (F := F)).tr s20).2.2 5 (by omega)) j).trans (hT j hj)) r20
          rw [nI_succ i] at g
          exact px_PW.imp g (fun v h' q => t_rdQ.tr ((t_same.rf (Z := Z) (N := N) (F := F)).tr s20) q)
        · have c4 : ¬ ((t_goOn (T i) R.1 R.2.1 R.2.2.1 R.2.2.2.1 R.2.2.2.2).2 = true) := px_b1z (of_decide_eq_true (px_nf c4))
          have eS : t_sign u (T i) R = (t_goOn (T i) R.1 R.2.1 R.2.2.1 R.2.2.2.1 R.2.2.2.2) := if_neg c3
          have e0 : t_run u T (m2 + 1) i R = (((t_goOn (T i) R.1 R.2.1 R.2.2.1 R.2.2.2.1 R.2.2.2.2)).1, some i) := t_run_n eS c4
          refine px_PW.steps kt_14.2 1 rfl ?_
          refine px_PW.ret kt_14.2 rfl rfl ?_
          rw [e0]
          exact ⟨rfl, _, _, _, rfl, (r20).k60, ((t_same.rf (Z := Z) (N := N) (F := F)).tr s20)⟩
      · have c3 : ¬ ((Z 17) = 0) := of_decide_eq_false c3
        rw [show Z 17 = if R.2.2.2.2 = true then 1 else 0 from (h).hw] at c3
        have c3 := px_b1n c3
        refine px_PW.steps kt_14.2 3 rfl ?_
        refine px_PW.callV kt_14.2 rfl rfl rfl rfl (ct_begin (h) (by omega) hu _) (by decide) (fun v h1 q => ?_)
        obtain ⟨rfl, Z21, N21, F21, rfl, r21, s21⟩ := q
        refine px_PW.steps kt_14.2 4 rfl ?_
        refine px_PW.br (fun c5 => ?_) (fun c5 => ?_)
        · have c5 : (t_begin u (T i) R.1 R.2.1 R.2.2.1 R.2.2.2.1 R.2.2.2.2).2 = true := px_b1n (of_decide_eq_false (px_nt c5))
          have eS : t_sign u (T i) R = (t_begin u (T i) R.1 R.2.1 R.2.2.1 R.2.2.2.1 R.2.2.2.2) := if_pos c3
          have e0 : t_run u T (m2 + 1) i R = t_run u T m2 (i + 1) ((t_begin u (T i) R.1 R.2.1 R.2.2.1 R.2.2.2.1 R.2.2.2.2)).1 := t_run_y eS c5
          refine px_PW.steps kt_14.2 2 rfl ?_
          rw [e0]
          have g := ct_read_loop (T := T) hP hu m2 (i + 1) ((t_begin u (T i) R.1 R.2.1 R.2.2.1 R.2.2.2.1 R.2.2.2.2)).1 Z21 N21 F21 (some (.int (T i))) (some (.int (if (t_begin u (T i) R.1 R.2.1 R.2.2.1 R.2.2.2.1 R.2.2.2.2).2 = true then 1 else 0 : Int32))) (by omega) ((((t_same.rf (Z := Z) (N := N) (F := F)).tr s21).2.1 5 (by omega)).trans hN) (fun j hj => (congrFun (((t_same.rf (Z := Z) (N := N) (F := F)).tr s21).2.2 5 (by omega)) j).trans (hT j hj)) r21
          rw [nI_succ i] at g
          exact px_PW.imp g (fun v h' q => t_rdQ.tr ((t_same.rf (Z := Z) (N := N) (F := F)).tr s21) q)
        · have c5 : ¬ ((t_begin u (T i) R.1 R.2.1 R.2.2.1 R.2.2.2.1 R.2.2.2.2).2 = true) := px_b1z (of_decide_eq_true (px_nf c5))
          have eS : t_sign u (T i) R = (t_begin u (T i) R.1 R.2.1 R.2.2.1 R.2.2.2.1 R.2.2.2.2) := if_pos c3
          have e0 : t_run u T (m2 + 1) i R = (((t_begin u (T i) R.1 R.2.1 R.2.2.1 R.2.2.2.1 R.2.2.2.2)).1, some i) := t_run_n eS c5
          refine px_PW.steps kt_14.2 1 rfl ?_
          refine px_PW.ret kt_14.2 rfl rfl ?_
          rw [e0]
          exact ⟨rfl, _, _, _, rfl, (r21).k60, ((t_same.rf (Z := Z) (N := N) (F := F)).tr s21)⟩
theorem ct_read {Z N : Nat → Int32} {F : Nat → Nat → Int32} {P u : Nat} {T : Nat → Int32} (hw : px_cw N) (hP : P ≤ 60) (hN : N 5 = nI P) (hT : ∀ j : Nat, j < P → F 5 j = T j) (hu : u ≤ 1) : px_PM 7 14 [.ref 55, .ref 12, .ref (t_nm u)] (px_CH Z N F, []) (t_rdQ Z N F P (t_run u T P 0 ([], [], 0, 0, true))) := by
  refine px_PM.start (nL := 6) (code := pc_14) rfl rfl ?_
  refine px_PW.steps kt_14.2 2 rfl ?_
  refine px_PW.callV kt_14.2 rfl rfl rfl rfl (nb_clear (q := 23) (by decide)) (by decide) (fun v h1 q => ?_)
  obtain ⟨rfl, rfl⟩ := q
  refine px_PW.steps kt_14.2 2 rfl ?_
  refine px_PW.callV kt_14.2 rfl rfl rfl rfl (nb_clear (q := 24) (by decide)) (by decide) (fun v h1 q => ?_)
  obtain ⟨rfl, rfl⟩ := q
  refine px_PW.steps kt_14.2 2 rfl ?_
  refine px_op_15 kt_14.2 rfl ?_
  refine px_PW.steps kt_14.2 2 rfl ?_
  refine px_op_16 kt_14.2 rfl ?_
  refine px_PW.steps kt_14.2 2 rfl ?_
  refine px_op_17 kt_14.2 rfl rfl ?_
  refine px_PW.steps kt_14.2 2 rfl ?_
  have hs : t_same Z N F (upd (upd (upd Z 15 0) 16 0) 17 1) (upd (upd N 23 0) 24 0) F := ⟨fun i hi => by rw [px_upd_ne _ _ (by omega), px_upd_ne _ _ (by omega), px_upd_ne _ _ (by omega)], fun q hq => by rw [px_upd_ne _ _ (by omega), px_upd_ne _ _ (by omega)], fun _ _ => rfl⟩
  have hr : t_rp (upd (upd (upd Z 15 0) 16 0) 17 1) (upd (upd N 23 0) 24 0) F ([], [], 0, 0, true) 0 := ⟨t_cw (n := 0) (t_cw (n := 0) hw (Or.inl rfl) (by omega)) (Or.inr rfl) (by omega), ⟨by rw [px_upd_ne _ _ (by omega), px_upd_self]; rfl, trivial⟩, ⟨px_upd_self _ _ _, trivial⟩, ⟨by rw [px_upd_ne _ _ (by omega), px_upd_ne _ _ (by omega), px_upd_self], by rw [px_upd_ne _ _ (by omega), px_upd_self], px_upd_self _ _ _⟩, Nat.le_refl 0, by omega⟩
  exact px_PW.imp (ct_read_loop hP hu P 0 _ _ _ F none none (by omega) ((hs.2.1 5 (by omega)).trans hN) hT hr) (fun v h' q => t_rdQ.tr hs q)
theorem zz_st_ov {f g : Nat → Int32} {n : Nat} : ∀ l : List Int32, l.length ≤ n → zz_st f l → zz_st (px_ov f g n) l
  | [], _, _ => trivial
  | a :: r, hn, h => by
    simp only [List.length_cons] at hn
    exact ⟨(if_pos (by omega)).trans h.1, zz_st_ov r (by omega) h.2⟩
theorem kc_text0 {Z N : Nat → Int32} {F : Nat → Nat → Int32} {P : Nat} {T : Nat → Int32} (hw : px_cw N) (hP : P ≤ 60) (hN : N 5 = nI P) (hT : ∀ j : Nat, j < P → F 5 j = T j) : px_PM 8 58 [.ref 0, .int 0] (px_CH Z N F, []) (fun r h' => ∃ x : t_R × Option Nat, x = t_run 0 T P 0 ([], [], 0, 0, true) ∧ r = some (.int (if t_end P x = -1 then 1 else -10 - t_end P x)) ∧ ∃ (Z' N' : Nat → Int32) (F' : Nat → Nat → Int32), h' = (px_CH Z' N' F', []) ∧ (∀ i : Nat, ¬ (15 ≤ i ∧ i ≤ 17) → Z' i = Z i) ∧ px_cw N' ∧ N' 5 = 0 ∧ (∀ j : Nat, ¬ (j = 5 ∨ j = 6 ∨ j = 23 ∨ j = 24) → N' j = N j) ∧ (∀ j : Nat, ¬ (j = 6 ∨ j = 23 ∨ j = 24) → F' j = F j) ∧ (¬ (t_end P x = -1) → N' 6 = N 6 ∧ F' 6 = F 6) ∧ (t_end P x = -1 → N' 6 = nI (t_fin x).1.length ∧ zz_st (F' 6) (t_fin x).1)) := by
  refine px_PM.start (nL := 3) (code := pc_58) rfl rfl ?_
  refine px_PW.steps kt_58.2 1 rfl ?_
  refine px_PW.callS kt_58.2 rfl rfl rfl (cc_isUse _ _) (by decide) (fun v h1 q => ?_)
  obtain ⟨rfl, rfl⟩ := q
  rw [if_pos (by decide)]
  refine px_PW.steps kt_58.2 1 rfl ?_
  refine px_PW.br (fun _ => ?_) (fun c0 => absurd c0 (by decide))
  refine px_PW.steps kt_58.2 7 rfl ?_
  refine px_PW.steps kt_58.2 2 rfl ?_
  refine px_PW.callV kt_58.2 rfl rfl rfl rfl (ct_read (u := 0) hw hP hN hT (by decide)) (by decide) (fun v h1 q => ?_)
  obtain ⟨rfl, Z1, N1, F1, rfl, r1, s1⟩ := q
  generalize hx : t_run 0 T P 0 ([], [], 0, 0, true) = x at r1 ⊢
  refine px_PW.steps kt_58.2 4 rfl ?_
  refine px_PW.callV kt_58.2 rfl rfl rfl rfl (nb_clear (q := 5) (by decide)) (by decide) (fun v h1 q => ?_)
  obtain ⟨rfl, rfl⟩ := q
  have hw1 : px_cw (upd N1 5 0) := (show px_cw N1 from r1.1).upd (by decide) (by decide) (by decide) ⟨by decide, by decide⟩
  refine px_PW.steps kt_58.2 3 rfl ?_
  refine px_PW.br (fun c0 => ?_) (fun c0 => ?_)
  · have c0 : t_end P x = -1 := of_decide_eq_true c0
    refine px_PW.steps kt_58.2 3 rfl ?_
    refine px_PW.callV kt_58.2 rfl rfl rfl rfl (cc_textOf0) (by decide) (fun v h1 q => ?_)
    obtain ⟨rfl, rfl⟩ := q
    refine px_PW.steps kt_58.2 3 rfl ?_
    refine px_PW.callV kt_58.2 rfl rfl rfl rfl (nb_copy (q := 6) (p := 23) (by decide) (by decide) (by decide) (hw1.nn (by decide)) (hw1.lim (by decide)) (hw1.lim (q := 23) (by decide))) (by decide) (fun v h1 q => ?_)
    obtain ⟨rfl, rfl⟩ := q
    refine px_PW.steps kt_58.2 1 rfl ?_
    refine px_PW.ret kt_58.2 rfl rfl ?_
    have e23 : (upd N1 5 0) 23 = nI (t_fin x).1.length := (px_upd_ne N1 _ (by omega)).trans r1.2.1.1
    have hlen : (t_fin x).1.length ≤ 60 := Nat.le_trans (Nat.le_add_right _ _) r1.2.2.2.2.1
    refine ⟨x, rfl, by rw [if_pos c0], Z1, _, _, rfl, s1.1, ?_, ?_, ?_, ?_, fun q => absurd c0 q, fun _ => ⟨?_, ?_⟩⟩
    · rw [e23]; exact hw1.upd (by decide) (by decide) (by decide) ⟨nI_pos' (by omega), by rw [nI_toInt (by omega)]; exact Int.ofNat_le.mpr hlen⟩
    · rw [px_upd_ne _ _ (by omega), px_upd_self]
    · intro j hj; rw [px_upd_ne _ _ (by omega), px_upd_ne _ _ (by omega)]; exact s1.2.1 j (by omega)
    · intro j hj; rw [px_up_ne _ _ (by omega)]; exact s1.2.2 j (by omega)
    · rw [px_upd_self]; exact e23
    · rw [px_up_self, e23, nI_clamp (by omega)]
      exact zz_st_ov (t_fin x).1 (Nat.le_refl _) r1.2.1.2
  · have c0 : ¬ (t_end P x = -1) := of_decide_eq_false c0
    refine px_PW.steps kt_58.2 3 rfl ?_
    refine px_PW.ret kt_58.2 rfl rfl ?_
    exact ⟨x, rfl, by rw [if_neg c0], Z1, _, _, rfl, s1.1, hw1, px_upd_self _ _ _, fun j hj => (px_upd_ne _ _ (by omega)).trans (s1.2.1 j (by omega)), fun j hj => s1.2.2 j (by omega), fun _ => ⟨(px_upd_ne _ _ (by omega)).trans (s1.2.1 6 (by omega)), s1.2.2 6 (by omega)⟩, fun q => absurd q c0⟩
theorem kc_text1 {Z N : Nat → Int32} {F : Nat → Nat → Int32} {P : Nat} {T : Nat → Int32} (hw : px_cw N) (hP : P ≤ 60) (hN : N 5 = nI P) (hT : ∀ j : Nat, j < P → F 5 j = T j) : px_PM 8 58 [.ref 0, .int 1] (px_CH Z N F, []) (fun r h' => ∃ x : t_R × Option Nat, x = t_run 1 T P 0 ([], [], 0, 0, true) ∧ r = some (.int (if t_end P x = -1 then 1 else -10 - t_end P x)) ∧ ∃ (Z' N' : Nat → Int32) (F' : Nat → Nat → Int32), h' = (px_CH Z' N' F', []) ∧ (∀ i : Nat, ¬ (15 ≤ i ∧ i ≤ 17) → Z' i = Z i) ∧ px_cw N' ∧ N' 5 = 0 ∧ (∀ j : Nat, ¬ (j = 5 ∨ j = 7 ∨ j = 23 ∨ j = 24) → N' j = N j) ∧ (∀ j : Nat, ¬ (j = 7 ∨ j = 23 ∨ j = 24) → F' j = F j) ∧ (¬ (t_end P x = -1) → N' 7 = N 7 ∧ F' 7 = F 7) ∧ (t_end P x = -1 → N' 7 = nI (t_fin x).1.length ∧ zz_st (F' 7) (t_fin x).1)) := by
  refine px_PM.start (nL := 3) (code := pc_58) rfl rfl ?_
  refine px_PW.steps kt_58.2 1 rfl ?_
  refine px_PW.callS kt_58.2 rfl rfl rfl (cc_isUse _ _) (by decide) (fun v h1 q => ?_)
  obtain ⟨rfl, rfl⟩ := q
  rw [if_pos (by decide)]
  refine px_PW.steps kt_58.2 1 rfl ?_
  refine px_PW.br (fun _ => ?_) (fun c0 => absurd c0 (by decide))
  refine px_PW.steps kt_58.2 7 rfl ?_
  refine px_PW.steps kt_58.2 1 rfl ?_
  refine px_PW.callV kt_58.2 rfl rfl rfl rfl (ct_read (u := 1) hw hP hN hT (by decide)) (by decide) (fun v h1 q => ?_)
  obtain ⟨rfl, Z1, N1, F1, rfl, r1, s1⟩ := q
  generalize hx : t_run 1 T P 0 ([], [], 0, 0, true) = x at r1 ⊢
  refine px_PW.steps kt_58.2 4 rfl ?_
  refine px_PW.callV kt_58.2 rfl rfl rfl rfl (nb_clear (q := 5) (by decide)) (by decide) (fun v h1 q => ?_)
  obtain ⟨rfl, rfl⟩ := q
  have hw1 : px_cw (upd N1 5 0) := (show px_cw N1 from r1.1).upd (by decide) (by decide) (by decide) ⟨by decide, by decide⟩
  refine px_PW.steps kt_58.2 3 rfl ?_
  refine px_PW.br (fun c0 => ?_) (fun c0 => ?_)
  · have c0 : t_end P x = -1 := of_decide_eq_true c0
    refine px_PW.steps kt_58.2 3 rfl ?_
    refine px_PW.callV kt_58.2 rfl rfl rfl rfl (cc_textOf1) (by decide) (fun v h1 q => ?_)
    obtain ⟨rfl, rfl⟩ := q
    refine px_PW.steps kt_58.2 3 rfl ?_
    refine px_PW.callV kt_58.2 rfl rfl rfl rfl (nb_copy (q := 7) (p := 23) (by decide) (by decide) (by decide) (hw1.nn (by decide)) (hw1.lim (by decide)) (hw1.lim (q := 23) (by decide))) (by decide) (fun v h1 q => ?_)
    obtain ⟨rfl, rfl⟩ := q
    refine px_PW.steps kt_58.2 1 rfl ?_
    refine px_PW.ret kt_58.2 rfl rfl ?_
    have e23 : (upd N1 5 0) 23 = nI (t_fin x).1.length := (px_upd_ne N1 _ (by omega)).trans r1.2.1.1
    have hlen : (t_fin x).1.length ≤ 60 := Nat.le_trans (Nat.le_add_right _ _) r1.2.2.2.2.1
    refine ⟨x, rfl, by rw [if_pos c0], Z1, _, _, rfl, s1.1, ?_, ?_, ?_, ?_, fun q => absurd c0 q, fun _ => ⟨?_, ?_⟩⟩
    · rw [e23]; exact hw1.upd (by decide) (by decide) (by decide) ⟨nI_pos' (by omega), by rw [nI_toInt (by omega)]; exact Int.ofNat_le.mpr hlen⟩
    · rw [px_upd_ne _ _ (by omega), px_upd_self]
    · intro j hj; rw [px_upd_ne _ _ (by omega), px_upd_ne _ _ (by omega)]; exact s1.2.1 j (by omega)
    · intro j hj; rw [px_up_ne _ _ (by omega)]; exact s1.2.2 j (by omega)
    · rw [px_upd_self]; exact e23
    · rw [px_up_self, e23, nI_clamp (by omega)]
      exact zz_st_ov (t_fin x).1 (Nat.le_refl _) r1.2.1.2
  · have c0 : ¬ (t_end P x = -1) := of_decide_eq_false c0
    refine px_PW.steps kt_58.2 3 rfl ?_
    refine px_PW.ret kt_58.2 rfl rfl ?_
    exact ⟨x, rfl, by rw [if_neg c0], Z1, _, _, rfl, s1.1, hw1, px_upd_self _ _ _, fun j hj => (px_upd_ne _ _ (by omega)).trans (s1.2.1 j (by omega)), fun j hj => s1.2.2 j (by omega), fun _ => ⟨(px_upd_ne _ _ (by omega)).trans (s1.2.1 7 (by omega)), s1.2.2 7 (by omega)⟩, fun q => absurd q c0⟩
theorem kc_textB {Z N : Nat → Int32} {F : Nat → Nat → Int32} (hw : px_cw N) (use : Int32) (hb : ¬ (use = 0 ∨ use = 1)) : px_PM 8 58 [.ref 0, .int use] (px_CH Z N F, []) (fun r h' => r = some (.int (-1000000001)) ∧ ∃ Z' N' F', px_sc Z N F Z' N' F' ∧ h' = (px_CH Z' N' F', [])) := by
  refine px_PM.start (nL := 3) (code := pc_58) rfl rfl ?_
  refine px_PW.steps kt_58.2 1 rfl ?_
  refine px_PW.callS kt_58.2 rfl rfl rfl (cc_isUse _ _) (by decide) (fun v h1 q => ?_)
  obtain ⟨rfl, rfl⟩ := q
  rw [if_neg hb]
  refine px_PW.steps kt_58.2 1 rfl ?_
  refine px_PW.br (fun c0 => absurd c0 (by decide)) (fun _ => ?_)
  refine px_PW.steps kt_58.2 2 rfl ?_
  refine px_PW.callV kt_58.2 rfl rfl rfl rfl (cc_error hw.2.2.1 1 (by decide)) (by decide) (fun v h1 q => ?_)
  obtain ⟨rfl, rfl⟩ := q
  refine px_PW.ret kt_58.2 rfl rfl ?_
  exact ⟨rfl, _, _, _, px_sc.err, rfl⟩
end
/-! part 66.t7.fits -/
section
/-! judge, fits: equal answers (66.t7: by hand) -/
/-- what a SHEET's numbers say of the laid row: both say the same -/
theorem RR.rff {Z N Zm : Nat → Int32} {F G : Nat → Nat → Int32} (h : RR Z N F Zm G) {k : Nat} (hk : k < 4) (hz : ¬ (G 11 k = 0)) {S : Nat} (hS : G 12 k = nI S) (hS24 : S ≤ 24) {s : Nat} (h1 : 1 ≤ s) (h2 : s ≤ fT (G 0)) (Z2 : Nat → Int32) (e : Nat) (he : fe (G 0) 0 = e) : zz_run (s_rff (c_lay Z2 F 0 (nI s)) F k) (min S (fP (upd (G 0) 6 (nI s)) 0)) 0 = zz_run (s_mro G k (r_B e (fw (upd (G 0) 6 (nI s)) 0) (fT (G 0)) (fJ (G 0)))) (min S (fP (upd (G 0) 6 (nI s)) 0)) 0 := by
  subst he
  have k1 : rw_ok (c_lay Z2 F 0 (nI s)) (fe (G 0) 0) (fw (upd (G 0) 6 (nI s)) 0) (fT (G 0)) (fJ (G 0)) := c_lay_ok (fun i hi => h.F0 hi) h.wall Z2 (r := 0) (by decide) h1 h2
  obtain ⟨-, -, -, hsh⟩ := h.2.2.2.2.2.1 k hk
  have hf := (hsh hz).2
  refine zz_run_congr _ _ (fun j _ hj => ?_)
  have hj1 : j < S := by omega
  have hj2 : j < fP (upd (G 0) 6 (nI s)) 0 := by omega
  unfold s_rff s_mro
  rw [w_wid_n k1 hj2, hf j (by rw [hS, nI_clamp (by omega)]; exact hj1)]
theorem st_judgeT (sheet : Int32) : px_st 79 200 [.int sheet] True := by
  intro Z N F Zm G h
  obtain ⟨⟨hT, hT1, hT2⟩, hJ, hR, hR1, hR8⟩ := g_TJR h.wall
  rcases zz_sheet sheet with c | ⟨k, hk, rfl⟩
  · exact px_st_of (kc_judgeB h.1 sheet c) (by decide) (kc_mjudgeB sheet c) (by decide) h (fun _ => rfl)
  · obtain ⟨S, s1, s2⟩ := h.SN hk
    obtain ⟨S2, t1, t2⟩ := h.SG hk
    have k2 := ((g_ok h.wall).2.2.2.2.2.2 0 (by omega)).2.2.2.2.1
    refine px_st_of (kc_judge h.1 k (P := fP (G 0) 0) hk s1 s2 (h.lay (fun _ => 0) (r := 0) (by decide)).1.2.2.2.2 (by omega)) (by decide) (kc_mjudge hk t1 t2 (g_ok h.wall) hR1) (by decide) h (fun _ => ?_)
    obtain ⟨g1, g2, g3, g4⟩ := h.2.2.2.2.2.1 k hk
    unfold s_judge s_mjudge s_lacks
    rw [g1]
    by_cases c : G 11 k = 0
    · rw [if_pos c, if_pos c, if_neg (by decide)]
    · rw [if_neg c, if_neg c, if_pos rfl]
      have eS : S = S2 := by
        have e := (g4 c).1
        rw [s1, t1] at e
        exact (nI_eq (by omega) (by omega)).mp e
      subst eS
      obtain ⟨q, q1, q2, q3, q4, q5⟩ := h.S
      have g := h.rff hk c t1 t2 q1 q2 Z _ rfl
      rw [q5] at g
      rw [q4]
      exact congrArg nI g
theorem s_fit_cg {g g' : Nat → Bool} : ∀ (s : Nat) (a : Int32 × Int32), (∀ j : Nat, 1 ≤ j → j ≤ s → g j = g' j) → s_fit g s a = s_fit g' s a
  | 0, _, _ => rfl
  | s + 1, a, h => by
    unfold s_fit
    rw [h (s + 1) (by omega) (Nat.le_refl _)]
    exact s_fit_cg s _ (fun j h1 h2 => h j h1 (by omega))
theorem s_fit_n (g : Nat → Bool) : ∀ (s n : Nat) (x : Int32), ∃ m : Nat, m ≤ n + s ∧ (s_fit g s (nI n, x)).1 = nI m
  | 0, n, x => ⟨n, Nat.le_refl _, rfl⟩
  | s + 1, n, x => by
    unfold s_fit
    split
    · obtain ⟨m, h1, h2⟩ := s_fit_n g s (n + 1) (nI (s + 1))
      refine ⟨m, by omega, ?_⟩
      rw [← h2, nI_succ n]
    · obtain ⟨m, h1, h2⟩ := s_fit_n g s n x
      exact ⟨m, by omega, h2⟩
theorem st_fitsT (sheet what : Int32) : px_st 72 183 [.int sheet, .int what] True := by
  intro Z N F Zm G h
  obtain ⟨⟨hT, hT1, hT2⟩, hJ, hR, hR1, hR8⟩ := g_TJR h.wall
  rcases zz_sheet sheet with c | ⟨k, hk, rfl⟩
  · exact px_st_of (kc_fitsB h.1 sheet what c) (by decide) (kc_mfitsB sheet what c) (by decide) h (fun _ => (ite_self _).symm)
  · obtain ⟨S, s1, s2⟩ := h.SN hk
    obtain ⟨S2, t1, t2⟩ := h.SG hk
    refine px_st_of (kc_fits h.1 k (P := fun s => fP (upd (G 0) 6 (nI s)) 0) hk s1 s2 (fun s u1 u2 => ?_) ((h.F0 (by decide)).trans hT) hT2 what) (by decide) (kc_mfits hT hT2 (g_okS h.wall) hk t1 t2 hR1 what) (by decide) h (fun _ => ?_)
    · have k1 := c_lay_ok (fun i hi => h.F0 hi) h.wall (fun _ => 0) (r := 0) (by decide) u1 u2
      have k2 := ((g_okS h.wall s u1 u2).2.2.2.2.2.2 0 (by omega)).2.2.2.2.1
      exact ⟨k1.1.2.2.2.2, by omega⟩
    · obtain ⟨g1, g2, g3, g4⟩ := h.2.2.2.2.2.1 k hk
      unfold s_fits s_mfits s_lacks
      rw [g1, zz_01]
      by_cases cw : 0 ≤ what ∧ what ≤ 1
      · rw [if_pos cw, if_pos cw]
        by_cases c : G 11 k = 0
        · rw [if_pos c, if_pos c, if_neg (by decide)]
        · rw [if_neg c, if_neg c, if_pos rfl]
          have eS : S = S2 := by
            have e := (g4 c).1
            rw [s1, t1] at e
            exact (nI_eq (by omega) (by omega)).mp e
          subst eS
          have eg : s_fit (s_fitg S (fun s => fP (upd (G 0) 6 (nI s)) 0) F k) (fT (G 0)) (0, 0) = s_fit (r_fitG G k S (fT (G 0)) (fJ (G 0)) (fe (G 0)) (fun s => fw (upd (G 0) 6 (nI s))) (fun s => fP (upd (G 0) 6 (nI s)))) (fT (G 0)) (0, 0) := by
            refine s_fit_cg _ _ (fun j h1 h2 => ?_)
            unfold s_fitg r_fitG
            rw [h.rff hk c t1 t2 h1 h2 (fun _ => 0) _ rfl]
          rw [eg]
          obtain ⟨m, m1, m2⟩ := s_fit_n (r_fitG G k S (fT (G 0)) (fJ (G 0)) (fe (G 0)) (fun s => fw (upd (G 0) 6 (nI s))) (fun s => fP (upd (G 0) 6 (nI s)))) (fT (G 0)) 0 0
          have m2 : (s_fit (r_fitG G k S (fT (G 0)) (fJ (G 0)) (fe (G 0)) (fun s => fw (upd (G 0) 6 (nI s))) (fun s => fP (upd (G 0) 6 (nI s)))) (fT (G 0)) (0, 0)).1 = nI m := m2
          rw [m2]
          have ez : nI m ≤ 0 ↔ nI m = 0 := by
            have e1 := nI_leI (a := m) (b := 0) (by omega) (by omega)
            have e2 := nI_eq (a := m) (b := 0) (by omega) (by omega)
            rw [show (0 : Int32) = nI 0 from rfl, e1, e2]
            omega
          by_cases c0 : nI m = 0
          · rw [if_pos (ez.mpr c0), if_pos c0]
          · rw [if_neg (fun q => c0 (ez.mp q)), if_neg c0]
      · rw [if_neg cw, if_neg cw]
end
/-! part 66.t8.voice -/
section
/-! voice: equal answers (66.t8: by hand) -/
theorem zz_divm1 (x : Int32) : x / (-1) = -x := by
  apply Int32.toInt_inj.mp
  have e : (-1 : Int32).toInt = -1 := by decide
  rw [Int32.toInt_div, e, Int.tdiv_neg, Int.tdiv_one, Int32.toInt_neg]
theorem zz_base {sp m x : Int32} (h : ¬ (m - sp = 0)) : i_quo x (m - sp) = r_base sp m x := by
  unfold i_quo r_base
  rw [if_neg h, if_neg h]
  by_cases c : m - sp = -1
  · rw [if_pos c, c, zz_divm1]
  · rw [if_neg c]
theorem zz_sub0 {a b : Int32} : a - b = 0 ↔ a = b := by
  constructor
  · intro h
    have e := Int32.sub_add_cancel a b
    rw [h, Int32.zero_add] at e
    exact e.symm
  · intro h
    rw [h, Int32.sub_self]
theorem v_012 {kd vo : Nat} (hk : kd < 7) (hv : vo < 3) (th ma x : Int32) : s_speak (nI kd) th ma (nI vo) x = if vo = 0 then r_drips kd th x else if vo = 1 then r_scores kd kd th ma x else r_snaps kd kd th ma x := by
  rcases (show vo = 0 ∨ vo = 1 ∨ vo = 2 by omega) with rfl | rfl | rfl <;> rcases (show kd = 0 ∨ kd = 1 ∨ kd = 2 ∨ kd = 3 ∨ kd = 4 ∨ kd = 5 ∨ kd = 6 by omega) with rfl | rfl | rfl | rfl | rfl | rfl | rfl <;> rfl
theorem v_3 {kd : Nat} (hk : kd < 7) {th ma x : Int32} (h : ¬ (ma - th = 0)) : s_speak (nI kd) th ma (nI 3) x = r_parts kd kd th ma x := by
  have hb := zz_base (x := x) h
  rcases (show kd = 0 ∨ kd = 1 ∨ kd = 2 ∨ kd = 3 ∨ kd = 4 ∨ kd = 5 ∨ kd = 6 by omega) with rfl | rfl | rfl | rfl | rfl | rfl | rfl <;> (unfold r_parts; try rw [if_neg h]; rw [← hb]; rfl)
theorem st_voiceT (thing voice x : Int32) : px_st 73 192 [.int thing, .int voice, .int x] True := by
  intro Z N F Zm G h
  have hM := h.M
  refine px_st_of (kc_voice h.1 h.hT h.kdC thing voice x) (by decide) (kc_mvoice h.M.1 h.M.2.1 h.kdN thing voice x) (by decide) h (fun _ => ?_)
  unfold s_voice s_mvoice
  have e1 : N 1 = G 0 10 := h.2.2.1.2.2.2.1.1
  have hq := zz_rowq (t := thing) hM.1 (by omega)
  rw [e1]
  by_cases c : thing < 0 ∨ G 0 10 ≤ thing
  · rw [if_pos c, if_neg (fun q => hq.mpr q c)]
  · rw [if_neg c, if_pos (hq.mp c)]
    obtain ⟨n, hn, rfl⟩ := zz_rown hM.1 (by omega) c
    have hn6 : n < 6 := by omega
    rw [nI_clamp (by omega)]
    obtain ⟨f1, f2, -, -⟩ := h.2.2.1.2.2.2.2.1 n hn
    obtain ⟨kd, k1, k2⟩ := h.kdN n hn
    have f1 : F 1 n = nI kd := f1.trans k2
    have f2 : F 2 n = G 0 (12 + 4 * n + 1) := f2
    rw [f1, f2, k2, nI_clamp (by omega)]
    by_cases cv : 0 ≤ voice ∧ voice ≤ 3
    · rw [if_neg (Int32.not_lt.mpr cv.1), if_pos cv.2, if_pos cv]
      obtain ⟨e, hl⟩ := px_in5 (n := 3) (by decide) cv
      generalize voice.toNatClampNeg = vo at e hl
      subst e
      unfold s_mvw
      rw [nI_clamp (n := n) (by omega)]
      rcases (show vo = 0 ∨ vo = 1 ∨ vo = 2 ∨ vo = 3 by omega) with rfl | rfl | rfl | rfl
      · rw [if_neg (show ¬ (nI 0 = (3 : Int32)) by decide), if_pos (show nI 0 = (0 : Int32) from rfl)]
        exact (v_012 k1 (by omega) _ _ _).trans (if_pos rfl)
      · rw [if_neg (show ¬ (nI 1 = (3 : Int32)) by decide), if_neg (show ¬ (nI 1 = (0 : Int32)) by decide), if_pos (show nI 1 = (1 : Int32) from rfl)]
        exact (v_012 k1 (by omega) _ _ _).trans ((if_neg (by omega)).trans (if_pos rfl))
      · rw [if_neg (show ¬ (nI 2 = (3 : Int32)) by decide), if_neg (show ¬ (nI 2 = (0 : Int32)) by decide), if_neg (show ¬ (nI 2 = (1 : Int32)) by decide), if_pos (show nI 2 = (2 : Int32) from rfl)]
        exact (v_012 k1 (by omega) _ _ _).trans ((if_neg (by omega)).trans (if_neg (by omega)))
      · rw [if_pos (show nI 3 = (3 : Int32) from rfl), if_neg (show ¬ (nI 3 = (0 : Int32)) by decide), if_neg (show ¬ (nI 3 = (1 : Int32)) by decide), if_neg (show ¬ (nI 3 = (2 : Int32)) by decide)]
        by_cases cp : G 0 (12 + 4 * n + 1) = nI n
        · rw [if_pos cp, if_pos (zz_sub0.mpr cp)]
        · rw [if_neg cp, if_neg (fun q => cp (zz_sub0.mp q))]
          exact v_3 k1 (fun q => cp (zz_sub0.mp q))
    · rw [if_neg cv]
      by_cases c1 : voice < 0
      · rw [if_pos c1]
      · rw [if_neg c1, if_neg (fun q => cv ⟨Int32.not_lt.mp c1, q⟩)]
end
