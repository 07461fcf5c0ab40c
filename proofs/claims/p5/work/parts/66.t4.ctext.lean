/-! the class's Reader, over lists (66.t4: ctext.py) -/
abbrev t_R : Type := List Int32 × List Int32 × Int32 × Int32 × Bool
def t_rep (Z N : Nat → Int32) (F : Nat → Nat → Int32) (c p : List Int32) (o d : Int32) (w : Bool) (k : Nat) : Prop := px_cw N ∧ (N 23 = nI c.length ∧ zz_st (F 23) c) ∧ (N 24 = nI p.length ∧ zz_st (F 24) p) ∧ (Z 15 = o ∧ Z 16 = d ∧ Z 17 = if w = true then 1 else 0) ∧ c.length + p.length ≤ k ∧ k ≤ 60
def t_rp (Z N : Nat → Int32) (F : Nat → Nat → Int32) (R : t_R) (k : Nat) : Prop := t_rep Z N F R.1 R.2.1 R.2.2.1 R.2.2.2.1 R.2.2.2.2 k
def t_same (Z N : Nat → Int32) (F : Nat → Nat → Int32) (Z' N' : Nat → Int32) (F' : Nat → Nat → Int32) : Prop := (∀ i : Nat, ¬ (15 ≤ i ∧ i ≤ 17) → Z' i = Z i) ∧ (∀ q : Nat, ¬ (q = 23 ∨ q = 24) → N' q = N q) ∧ ∀ q : Nat, ¬ (q = 23 ∨ q = 24) → F' q = F q
theorem t_same.rf {Z N : Nat → Int32} {F : Nat → Nat → Int32} : t_same Z N F Z N F := ⟨fun _ _ => rfl, fun _ _ => rfl, fun _ _ => rfl⟩
theorem t_same.tr {Z N Z1 N1 Z2 N2 : Nat → Int32} {F F1 F2 : Nat → Nat → Int32} (h : t_same Z N F Z1 N1 F1) (k : t_same Z1 N1 F1 Z2 N2 F2) : t_same Z N F Z2 N2 F2 := ⟨fun i hi => (k.1 i hi).trans (h.1 i hi), fun q hq => (k.2.1 q hq).trans (h.2.1 q hq), fun q hq => (k.2.2 q hq).trans (h.2.2 q hq)⟩
theorem t_same.z {Z N : Nat → Int32} {F : Nat → Nat → Int32} {k : Nat} {x : Int32} (hk : 15 ≤ k ∧ k ≤ 17) : t_same Z N F (upd Z k x) N F := ⟨fun i hi => px_upd_ne Z x (by omega), fun _ _ => rfl, fun _ _ => rfl⟩
theorem t_same.n {Z N : Nat → Int32} {F : Nat → Nat → Int32} {k : Nat} {x : Int32} (hk : k = 23 ∨ k = 24) : t_same Z N F Z (upd N k x) F := ⟨fun _ _ => rfl, fun q hq => px_upd_ne N x (by omega), fun _ _ => rfl⟩
theorem t_same.f {Z N : Nat → Int32} {F : Nat → Nat → Int32} {k : Nat} {g : Nat → Int32} (hk : k = 23 ∨ k = 24) : t_same Z N F Z N (va_up F k g) := ⟨fun _ _ => rfl, fun _ _ => rfl, fun q hq => px_up_ne F g (by omega)⟩
theorem t_cw {N : Nat → Int32} (h : px_cw N) {q n : Nat} (hq : q = 23 ∨ q = 24) (hn : n ≤ 60) : px_cw (upd N q (nI n)) := by
  refine ⟨by rw [px_upd_ne N _ (by omega)]; exact h.1, by rw [px_upd_ne N _ (by omega)]; exact h.2.1, by rw [px_upd_ne N _ (by omega)]; exact h.2.2.1, fun j hj => ?_⟩
  by_cases c : j = q
  · subst c
    rw [px_upd_self]
    refine ⟨nI_pos' (by omega), ?_⟩
    rw [nI_toInt (by omega)]
    rcases hq with rfl | rfl <;> exact Int.ofNat_le.mpr hn
  · rw [px_upd_ne N _ c]
    exact h.2.2.2 j hj
section TREP
variable {Z N : Nat → Int32} {F : Nat → Nat → Int32} {c p : List Int32} {o d : Int32} {w : Bool} {k : Nat}
theorem t_rep.up (h : t_rep Z N F c p o d w k) (hk : k < 60) : t_rep Z N F c p o d w (k + 1) := ⟨h.1, h.2.1, h.2.2.1, h.2.2.2.1, Nat.le_succ_of_le h.2.2.2.2.1, hk⟩
theorem t_rep.ho (h : t_rep Z N F c p o d w k) : Z 15 = o := h.2.2.2.1.1
theorem t_rep.hd (h : t_rep Z N F c p o d w k) : Z 16 = d := h.2.2.2.1.2.1
theorem t_rep.hw (h : t_rep Z N F c p o d w k) : Z 17 = if w = true then 1 else 0 := h.2.2.2.1.2.2
theorem t_rep.o1 (h : t_rep Z N F c p o d w k) : t_rep (upd Z 15 (Z 15 + 1)) N F c p (o + 1) d w k := ⟨h.1, h.2.1, h.2.2.1, ⟨by rw [px_upd_self, h.ho], by rw [px_upd_ne _ _ (by omega)]; exact h.hd, by rw [px_upd_ne _ _ (by omega)]; exact h.hw⟩, h.2.2.2.2⟩
theorem t_rep.om (h : t_rep Z N F c p o d w k) : t_rep (upd Z 15 (Z 15 - 1)) N F c p (o - 1) d w k := ⟨h.1, h.2.1, h.2.2.1, ⟨by rw [px_upd_self, h.ho], by rw [px_upd_ne _ _ (by omega)]; exact h.hd, by rw [px_upd_ne _ _ (by omega)]; exact h.hw⟩, h.2.2.2.2⟩
theorem t_rep.d1 (h : t_rep Z N F c p o d w k) : t_rep (upd Z 16 (Z 16 + 1)) N F c p o (d + 1) w k := ⟨h.1, h.2.1, h.2.2.1, ⟨by rw [px_upd_ne _ _ (by omega)]; exact h.ho, by rw [px_upd_self, h.hd], by rw [px_upd_ne _ _ (by omega)]; exact h.hw⟩, h.2.2.2.2⟩
theorem t_rep.dx (h : t_rep Z N F c p o d w k) (x : Int32) : t_rep (upd Z 16 x) N F c p o x w k := ⟨h.1, h.2.1, h.2.2.1, ⟨by rw [px_upd_ne _ _ (by omega)]; exact h.ho, px_upd_self _ _ _, by rw [px_upd_ne _ _ (by omega)]; exact h.hw⟩, h.2.2.2.2⟩
theorem t_rep.w1 (h : t_rep Z N F c p o d w k) : t_rep (upd Z 17 1) N F c p o d true k := ⟨h.1, h.2.1, h.2.2.1, ⟨by rw [px_upd_ne _ _ (by omega)]; exact h.ho, by rw [px_upd_ne _ _ (by omega)]; exact h.hd, px_upd_self _ _ _⟩, h.2.2.2.2⟩
theorem t_rep.w0 (h : t_rep Z N F c p o d w k) : t_rep (upd Z 17 0) N F c p o d false k := ⟨h.1, h.2.1, h.2.2.1, ⟨by rw [px_upd_ne _ _ (by omega)]; exact h.ho, by rw [px_upd_ne _ _ (by omega)]; exact h.hd, px_upd_self _ _ _⟩, h.2.2.2.2⟩
theorem ct_size (h : t_rep Z N F c p o d w k) : px_PM 1 2 [.ref 58] (px_CH Z N F, []) (fun r h' => r = some (.int (nI p.length)) ∧ h' = (px_CH Z N F, [])) := by
  have g := nb_size (Z := Z) (N := N) (F := F) (q := 24) (by decide)
  rw [h.2.2.1.1] at g
  exact g
theorem ct_top (h : t_rep Z N F c p o d w k) : px_PM 1 6 [.ref 58, .int (nI p.length - 1)] (px_CH Z N F, []) (fun r h' => r = some (.int (p.headD 0)) ∧ h' = (px_CH Z N F, [])) := by
  have g := nb_get (Z := Z) (N := N) (F := F) (q := 24) (by decide) (nI p.length - 1) (h.1.lim (by decide))
  obtain ⟨-, -, ⟨e1, e2⟩, -, e3, e4⟩ := h
  rw [e1] at g
  cases p with
  | nil =>
    rw [if_pos (Or.inl (by decide))] at g
    exact g
  | cons x r =>
    simp only [List.length_cons] at g e3
    rw [nI_pred, if_neg (fun q => q.elim (nI_pos (by omega)) (nI_ge (by omega) (by omega))), nI_clamp (by omega), e2.1] at g
    have e6 : nI (x :: r).length - 1 = nI r.length := nI_pred r.length
    rw [e6]
    exact g
theorem ct_pop24 (h : t_rep Z N F c p o d w k) : px_PM 1 9 [.ref 58] (px_CH Z N F, []) (fun r h' => r = some (.int (p.headD 0)) ∧ ∃ (Z' N' : Nat → Int32) (F' : Nat → Nat → Int32), h' = (px_CH Z' N' F', []) ∧ t_rep Z' N' F' c p.tail o d w k ∧ t_same Z N F Z' N' F') := by
  obtain ⟨e0, ⟨c1, c2⟩, ⟨e1, e2⟩, e3, e4, e5⟩ := h
  refine (nb_popS (Z := Z) (N := N) (F := F) (q := 24) (l := p) (by decide) e1 (show p.length ≤ 60 by omega) e2).mono (Nat.le_refl _) (fun r h' q => ?_)
  refine ⟨q.1, Z, _, F, q.2, ⟨t_cw e0 (Or.inr rfl) (by rw [List.length_tail]; omega), ⟨by rw [px_upd_ne N _ (by omega)]; exact c1, c2⟩, ⟨px_upd_self _ _ _, zz_st_tail e2⟩, e3, by rw [List.length_tail]; omega, e5⟩, t_same.n (Or.inr rfl)⟩
theorem ct_pop23 (h : t_rep Z N F c p o d w k) : px_PM 1 9 [.ref 56] (px_CH Z N F, []) (fun r h' => r = some (.int (c.headD 0)) ∧ ∃ (Z' N' : Nat → Int32) (F' : Nat → Nat → Int32), h' = (px_CH Z' N' F', []) ∧ t_rep Z' N' F' c.tail p o d w k ∧ t_same Z N F Z' N' F') := by
  obtain ⟨e0, ⟨c1, c2⟩, ⟨e1, e2⟩, e3, e4, e5⟩ := h
  refine (nb_popS (Z := Z) (N := N) (F := F) (q := 23) (l := c) (by decide) c1 (show c.length ≤ 60 by omega) c2).mono (Nat.le_refl _) (fun r h' q => ?_)
  refine ⟨q.1, Z, _, F, q.2, ⟨t_cw e0 (Or.inl rfl) (by rw [List.length_tail]; omega), ⟨px_upd_self _ _ _, zz_st_tail c2⟩, ⟨by rw [px_upd_ne N _ (by omega)]; exact e1, e2⟩, e3, by rw [List.length_tail]; omega, e5⟩, t_same.n (Or.inl rfl)⟩
theorem ct_push24 (h : t_rep Z N F c p o d w k) (hk : k < 60) (v : Int32) : px_PM 1 8 [.ref 58, .int v] (px_CH Z N F, []) (fun r h' => r = none ∧ ∃ (Z' N' : Nat → Int32) (F' : Nat → Nat → Int32), h' = (px_CH Z' N' F', []) ∧ t_rep Z' N' F' c (v :: p) o d w (k + 1) ∧ t_same Z N F Z' N' F') := by
  obtain ⟨e0, ⟨c1, c2⟩, ⟨e1, e2⟩, e3, e4, e5⟩ := h
  refine (nb_pushS (Z := Z) (N := N) (F := F) (q := 24) (l := p) (by decide) e1 (show p.length < 60 by omega) v).mono (Nat.le_refl _) (fun r h' q => ?_)
  refine ⟨q.1, Z, _, _, q.2, ⟨t_cw e0 (Or.inr rfl) (by rw [List.length_cons]; omega), ⟨by rw [px_upd_ne N _ (by omega)]; exact c1, c2⟩, ⟨px_upd_self _ _ _, by rw [px_up_self]; exact zz_st_push e2⟩, e3, by rw [List.length_cons]; omega, by omega⟩, (t_same.n (Or.inr rfl)).tr (t_same.f (Or.inr rfl))⟩
theorem ct_push23 (h : t_rep Z N F c p o d w k) (hk : k < 60) (v : Int32) : px_PM 1 8 [.ref 56, .int v] (px_CH Z N F, []) (fun r h' => r = none ∧ ∃ (Z' N' : Nat → Int32) (F' : Nat → Nat → Int32), h' = (px_CH Z' N' F', []) ∧ t_rep Z' N' F' (v :: c) p o d w (k + 1) ∧ t_same Z N F Z' N' F') := by
  obtain ⟨e0, ⟨c1, c2⟩, ⟨e1, e2⟩, e3, e4, e5⟩ := h
  refine (nb_pushS (Z := Z) (N := N) (F := F) (q := 23) (l := c) (by decide) c1 (show c.length < 60 by omega) v).mono (Nat.le_refl _) (fun r h' q => ?_)
  refine ⟨q.1, Z, _, _, q.2, ⟨t_cw e0 (Or.inl rfl) (by rw [List.length_cons]; omega), ⟨px_upd_self _ _ _, by rw [px_up_self]; exact zz_st_push c2⟩, ⟨by rw [px_upd_ne N _ (by omega)]; exact e1, e2⟩, e3, by rw [List.length_cons]; omega, by omega⟩, (t_same.n (Or.inl rfl)).tr (t_same.f (Or.inl rfl))⟩
end TREP
def t_rank (s : Int32) : Int32 := (if s = 33 then 6 else (if s = 37 then 5 else (if s = 38 then 2 else (if s = 42 then 5 else (if s = 43 then 4 else (if s = 45 then 4 else (if s = 47 then 5 else (if s = 60 then 3 else (if s = 61 then 3 else (if s = 62 then 3 else (if s = 124 then 1 else 0)))))))))))
theorem px_swd_21_1 {x : Int32} (c0 : ¬ (x = 33)) (c1 : ¬ (x = 37)) (c2 : ¬ (x = 38)) (c3 : ¬ (x = 42)) (c4 : ¬ (x = 43)) (c5 : ¬ (x = 45)) (c6 : ¬ (x = 47)) (c7 : ¬ (x = 60)) (c8 : ¬ (x = 61)) (c9 : ¬ (x = 62)) (c10 : ¬ (x = 124)) : px_lk [(33, 110), (37, 108), (38, 102), (42, 108), (43, 106), (45, 106), (47, 108), (60, 104), (61, 104), (62, 104), (124, 100)] 113 x.toInt = 113 := by
  have d0 : ¬ (x.toInt = 33) := fun h => c0 (px_i_of h (by decide +kernel))
  have d1 : ¬ (x.toInt = 37) := fun h => c1 (px_i_of h (by decide +kernel))
  have d2 : ¬ (x.toInt = 38) := fun h => c2 (px_i_of h (by decide +kernel))
  have d3 : ¬ (x.toInt = 42) := fun h => c3 (px_i_of h (by decide +kernel))
  have d4 : ¬ (x.toInt = 43) := fun h => c4 (px_i_of h (by decide +kernel))
  have d5 : ¬ (x.toInt = 45) := fun h => c5 (px_i_of h (by decide +kernel))
  have d6 : ¬ (x.toInt = 47) := fun h => c6 (px_i_of h (by decide +kernel))
  have d7 : ¬ (x.toInt = 60) := fun h => c7 (px_i_of h (by decide +kernel))
  have d8 : ¬ (x.toInt = 61) := fun h => c8 (px_i_of h (by decide +kernel))
  have d9 : ¬ (x.toInt = 62) := fun h => c9 (px_i_of h (by decide +kernel))
  have d10 : ¬ (x.toInt = 124) := fun h => c10 (px_i_of h (by decide +kernel))
  simp only [px_lk, decide_eq_false (fun h : (33 : Int) = x.toInt => d0 h.symm), decide_eq_false (fun h : (37 : Int) = x.toInt => d1 h.symm), decide_eq_false (fun h : (38 : Int) = x.toInt => d2 h.symm), decide_eq_false (fun h : (42 : Int) = x.toInt => d3 h.symm), decide_eq_false (fun h : (43 : Int) = x.toInt => d4 h.symm), decide_eq_false (fun h : (45 : Int) = x.toInt => d5 h.symm), decide_eq_false (fun h : (47 : Int) = x.toInt => d6 h.symm), decide_eq_false (fun h : (60 : Int) = x.toInt => d7 h.symm), decide_eq_false (fun h : (61 : Int) = x.toInt => d8 h.symm), decide_eq_false (fun h : (62 : Int) = x.toInt => d9 h.symm), decide_eq_false (fun h : (124 : Int) = x.toInt => d10 h.symm)]
  rfl
theorem ct_rank   (s : Int32) (h : px_H) : px_PM 1 21 [.int s] h (fun r h' => r = some (.int (t_rank s)) ∧ h' = h) := by
  refine px_PM.start (nL := 1) (code := pc_21) rfl rfl ?_
  refine px_PW.steps kt_21.2 2 rfl ?_
  by_cases c0 : s = 33
  · refine px_PW.at (pc' := 110) (show px_lk [(33, 110), (37, 108), (38, 102), (42, 108), (43, 106), (45, 106), (47, 108), (60, 104), (61, 104), (62, 104), (124, 100)] 113 (s : Int32).toInt = 110 by rw [c0]; rfl) ?_
    refine px_PW.steps kt_21.2 1 rfl ?_
    refine px_PW.ret kt_21.2 rfl rfl ?_
    exact ⟨congrArg (fun z => some (Value.int z)) (show t_rank s = 6 from if_pos c0).symm, rfl⟩
  · skip
    by_cases c1 : s = 37
    · refine px_PW.at (pc' := 108) (show px_lk [(33, 110), (37, 108), (38, 102), (42, 108), (43, 106), (45, 106), (47, 108), (60, 104), (61, 104), (62, 104), (124, 100)] 113 (s : Int32).toInt = 108 by rw [c1]; rfl) ?_
      refine px_PW.steps kt_21.2 1 rfl ?_
      refine px_PW.ret kt_21.2 rfl rfl ?_
      exact ⟨congrArg (fun z => some (Value.int z)) (show t_rank s = 5 from (if_neg c0).trans (if_pos c1)).symm, rfl⟩
    · skip
      by_cases c2 : s = 38
      · refine px_PW.at (pc' := 102) (show px_lk [(33, 110), (37, 108), (38, 102), (42, 108), (43, 106), (45, 106), (47, 108), (60, 104), (61, 104), (62, 104), (124, 100)] 113 (s : Int32).toInt = 102 by rw [c2]; rfl) ?_
        refine px_PW.steps kt_21.2 1 rfl ?_
        refine px_PW.ret kt_21.2 rfl rfl ?_
        exact ⟨congrArg (fun z => some (Value.int z)) (show t_rank s = 2 from (if_neg c0).trans ((if_neg c1).trans (if_pos c2))).symm, rfl⟩
      · skip
        by_cases c3 : s = 42
        · refine px_PW.at (pc' := 108) (show px_lk [(33, 110), (37, 108), (38, 102), (42, 108), (43, 106), (45, 106), (47, 108), (60, 104), (61, 104), (62, 104), (124, 100)] 113 (s : Int32).toInt = 108 by rw [c3]; rfl) ?_
          refine px_PW.steps kt_21.2 1 rfl ?_
          refine px_PW.ret kt_21.2 rfl rfl ?_
          exact ⟨congrArg (fun z => some (Value.int z)) (show t_rank s = 5 from (if_neg c0).trans ((if_neg c1).trans ((if_neg c2).trans (if_pos c3)))).symm, rfl⟩
        · skip
          by_cases c4 : s = 43
          · refine px_PW.at (pc' := 106) (show px_lk [(33, 110), (37, 108), (38, 102), (42, 108), (43, 106), (45, 106), (47, 108), (60, 104), (61, 104), (62, 104), (124, 100)] 113 (s : Int32).toInt = 106 by rw [c4]; rfl) ?_
            refine px_PW.steps kt_21.2 1 rfl ?_
            refine px_PW.ret kt_21.2 rfl rfl ?_
            exact ⟨congrArg (fun z => some (Value.int z)) (show t_rank s = 4 from (if_neg c0).trans ((if_neg c1).trans ((if_neg c2).trans ((if_neg c3).trans (if_pos c4))))).symm, rfl⟩
          · skip
            by_cases c5 : s = 45
            · refine px_PW.at (pc' := 106) (show px_lk [(33, 110), (37, 108), (38, 102), (42, 108), (43, 106), (45, 106), (47, 108), (60, 104), (61, 104), (62, 104), (124, 100)] 113 (s : Int32).toInt = 106 by rw [c5]; rfl) ?_
              refine px_PW.steps kt_21.2 1 rfl ?_
              refine px_PW.ret kt_21.2 rfl rfl ?_
              exact ⟨congrArg (fun z => some (Value.int z)) (show t_rank s = 4 from (if_neg c0).trans ((if_neg c1).trans ((if_neg c2).trans ((if_neg c3).trans ((if_neg c4).trans (if_pos c5)))))).symm, rfl⟩
            · skip
              by_cases c6 : s = 47
              · refine px_PW.at (pc' := 108) (show px_lk [(33, 110), (37, 108), (38, 102), (42, 108), (43, 106), (45, 106), (47, 108), (60, 104), (61, 104), (62, 104), (124, 100)] 113 (s : Int32).toInt = 108 by rw [c6]; rfl) ?_
                refine px_PW.steps kt_21.2 1 rfl ?_
                refine px_PW.ret kt_21.2 rfl rfl ?_
                exact ⟨congrArg (fun z => some (Value.int z)) (show t_rank s = 5 from (if_neg c0).trans ((if_neg c1).trans ((if_neg c2).trans ((if_neg c3).trans ((if_neg c4).trans ((if_neg c5).trans (if_pos c6))))))).symm, rfl⟩
              · skip
                by_cases c7 : s = 60
                · refine px_PW.at (pc' := 104) (show px_lk [(33, 110), (37, 108), (38, 102), (42, 108), (43, 106), (45, 106), (47, 108), (60, 104), (61, 104), (62, 104), (124, 100)] 113 (s : Int32).toInt = 104 by rw [c7]; rfl) ?_
                  refine px_PW.steps kt_21.2 1 rfl ?_
                  refine px_PW.ret kt_21.2 rfl rfl ?_
                  exact ⟨congrArg (fun z => some (Value.int z)) (show t_rank s = 3 from (if_neg c0).trans ((if_neg c1).trans ((if_neg c2).trans ((if_neg c3).trans ((if_neg c4).trans ((if_neg c5).trans ((if_neg c6).trans (if_pos c7)))))))).symm, rfl⟩
                · skip
                  by_cases c8 : s = 61
                  · refine px_PW.at (pc' := 104) (show px_lk [(33, 110), (37, 108), (38, 102), (42, 108), (43, 106), (45, 106), (47, 108), (60, 104), (61, 104), (62, 104), (124, 100)] 113 (s : Int32).toInt = 104 by rw [c8]; rfl) ?_
                    refine px_PW.steps kt_21.2 1 rfl ?_
                    refine px_PW.ret kt_21.2 rfl rfl ?_
                    exact ⟨congrArg (fun z => some (Value.int z)) (show t_rank s = 3 from (if_neg c0).trans ((if_neg c1).trans ((if_neg c2).trans ((if_neg c3).trans ((if_neg c4).trans ((if_neg c5).trans ((if_neg c6).trans ((if_neg c7).trans (if_pos c8))))))))).symm, rfl⟩
                  · skip
                    by_cases c9 : s = 62
                    · refine px_PW.at (pc' := 104) (show px_lk [(33, 110), (37, 108), (38, 102), (42, 108), (43, 106), (45, 106), (47, 108), (60, 104), (61, 104), (62, 104), (124, 100)] 113 (s : Int32).toInt = 104 by rw [c9]; rfl) ?_
                      refine px_PW.steps kt_21.2 1 rfl ?_
                      refine px_PW.ret kt_21.2 rfl rfl ?_
                      exact ⟨congrArg (fun z => some (Value.int z)) (show t_rank s = 3 from (if_neg c0).trans ((if_neg c1).trans ((if_neg c2).trans ((if_neg c3).trans ((if_neg c4).trans ((if_neg c5).trans ((if_neg c6).trans ((if_neg c7).trans ((if_neg c8).trans (if_pos c9)))))))))).symm, rfl⟩
                    · skip
                      by_cases c10 : s = 124
                      · refine px_PW.at (pc' := 100) (show px_lk [(33, 110), (37, 108), (38, 102), (42, 108), (43, 106), (45, 106), (47, 108), (60, 104), (61, 104), (62, 104), (124, 100)] 113 (s : Int32).toInt = 100 by rw [c10]; rfl) ?_
                        refine px_PW.steps kt_21.2 1 rfl ?_
                        refine px_PW.ret kt_21.2 rfl rfl ?_
                        exact ⟨congrArg (fun z => some (Value.int z)) (show t_rank s = 1 from (if_neg c0).trans ((if_neg c1).trans ((if_neg c2).trans ((if_neg c3).trans ((if_neg c4).trans ((if_neg c5).trans ((if_neg c6).trans ((if_neg c7).trans ((if_neg c8).trans ((if_neg c9).trans (if_pos c10))))))))))).symm, rfl⟩
                      · skip
                        refine px_PW.at (px_swd_21_1 c0 c1 c2 c3 c4 c5 c6 c7 c8 c9 c10) ?_
                        refine px_PW.steps kt_21.2 1 rfl ?_
                        refine px_PW.ret kt_21.2 rfl rfl ?_
                        exact ⟨congrArg (fun z => some (Value.int z)) (show t_rank s = 0 from (if_neg c0).trans ((if_neg c1).trans ((if_neg c2).trans ((if_neg c3).trans ((if_neg c4).trans ((if_neg c5).trans ((if_neg c6).trans ((if_neg c7).trans ((if_neg c8).trans ((if_neg c9).trans (if_neg c10))))))))))).symm, rfl⟩
theorem ct_digit (s : Int32) (h : px_H) : px_PM 1 20 [.int s] h (fun r h' => r = some (.int (if s < 48 ∨ 57 < s then 0 else 1)) ∧ h' = h) := by
  refine px_PM.start (nL := 1) (code := pc_20) rfl rfl ?_
  refine px_PW.steps kt_20.2 3 rfl ?_
  refine px_PW.br (fun c0 => ?_) (fun c0 => ?_)
  · have c0 : s < 48 := of_decide_eq_true c0
    refine px_PW.steps kt_20.2 1 rfl ?_
    refine px_PW.ret kt_20.2 rfl rfl ?_
    exact ⟨by simp [*], rfl⟩
  · have c0 : ¬ (s < 48) := of_decide_eq_false c0
    refine px_PW.steps kt_20.2 3 rfl ?_
    refine px_PW.br (fun c1 => ?_) (fun c1 => ?_)
    · have c1 : 57 < s := of_decide_eq_true c1
      refine px_PW.steps kt_20.2 1 rfl ?_
      refine px_PW.ret kt_20.2 rfl rfl ?_
      exact ⟨by simp [*], rfl⟩
    · have c1 : ¬ (57 < s) := of_decide_eq_false c1
      refine px_PW.steps kt_20.2 2 rfl ?_
      refine px_PW.ret kt_20.2 rfl rfl ?_
      exact ⟨by simp [*], rfl⟩
/-- signs of a rank or above it come to the codes -/
def t_stl (r : Int32) : List Int32 → List Int32 → Int32 → List Int32 × List Int32 × Int32
  | c, [], o => (c, [], o)
  | c, x :: p, o => if t_rank x < r then (c, x :: p, o) else t_stl r (-x :: c) p (if x = 33 then o - 1 else o)
theorem t_stl_len (r : Int32) : ∀ (p c : List Int32) (o : Int32), (t_stl r c p o).1.length + (t_stl r c p o).2.1.length = c.length + p.length
  | [], c, o => rfl
  | x :: p, c, o => by
    unfold t_stl
    split
    · rfl
    · rw [t_stl_len r p (-x :: c)]
      simp only [List.length_cons]
      omega
theorem zz_pm (n : Nat) : nI n + -1 = nI n - 1 := (Int32.sub_eq_add_neg (nI n) 1).symm
theorem ct_set_loop {r d : Int32} {w : Bool} {Q : Option Value → px_H → Prop} {dd : Nat} (hdd : 1 ≤ dd) : ∀ (p c : List Int32) (o : Int32) (k : Nat) (Z N : Nat → Int32) (F : Nat → Nat → Int32) (w3 : Option Value), t_rep Z N F c p o d w k → (∀ (Z' N' : Nat → Int32) (F' : Nat → Nat → Int32) (w2 w3 : Option Value), t_rep Z' N' F' (t_stl r c p o).1 (t_stl r c p o).2.1 (t_stl r c p o).2.2 d w k → t_same Z N F Z' N' F' → px_PW dd pc_19 Q 68 [some (.ref 55), some (.int r), w2, w3] [] (px_CH Z' N' F', [])) → px_PW dd pc_19 Q 10 [some (.ref 55), some (.int r), some (.int (nI p.length - 1)), w3] [] (px_CH Z N F, [])
  | [], c, o, k, Z, N, F, w3, h, H => by
    refine px_PW.steps kt_19.2 2 rfl ?_
    exact px_PW.br (fun _ => H Z N F _ _ h t_same.rf) (fun c0 => absurd (of_decide_eq_false c0) (by decide))
  | x :: p, c, o, k, Z, N, F, w3, h, H => by
    have hlen := h.2.2.2.2
    simp only [List.length_cons] at hlen
    obtain ⟨k, rfl⟩ : ∃ m, k = m + 1 := ⟨k - 1, by omega⟩
    have hk : k < 60 := by omega
    have e1 : nI (x :: p).length - 1 = nI p.length := nI_pred p.length
    have htop := ct_top h
    rw [e1] at htop ⊢
    refine px_PW.steps kt_19.2 2 rfl ?_
    refine px_PW.br (fun c0 => ?_) (fun c0 => ?_)
    · have c0 : (nI p.length) < 0 := of_decide_eq_true c0
      exact absurd c0 (nI_pos (by omega))
    · have c0 : ¬ ((nI p.length) < 0) := of_decide_eq_false c0
      refine px_PW.steps kt_19.2 3 rfl ?_
      refine px_PW.callV kt_19.2 rfl rfl rfl rfl (htop) (by omega) (fun v h1 q => ?_)
      obtain ⟨rfl, rfl⟩ := q
      refine px_PW.callS kt_19.2 rfl rfl rfl (ct_rank _ _) (by omega) (fun v h1 q => ?_)
      obtain ⟨rfl, rfl⟩ := q
      refine px_PW.steps kt_19.2 2 rfl ?_
      refine px_PW.br (fun c1 => ?_) (fun c1 => ?_)
      · have c1 : (t_rank x) < r := of_decide_eq_true c1
        have e0 : t_stl r c (x :: p) o = (c, x :: p, o) := if_pos c1
        rw [e0] at H
        exact H Z N F _ _ h t_same.rf
      · have c1 : ¬ ((t_rank x) < r) := of_decide_eq_false c1
        have e0 : t_stl r c (x :: p) o = t_stl r (-x :: c) p (if x = 33 then o - 1 else o) := if_neg c1
        refine px_PW.steps kt_19.2 2 rfl ?_
        refine px_PW.callV kt_19.2 rfl rfl rfl rfl (ct_pop24 h) (by omega) (fun v h1 q => ?_)
        obtain ⟨rfl, Z1, N1, F1, rfl, r1, s1⟩ := q
        have r1 : t_rep Z1 N1 F1 c p o d w k := ⟨r1.1, r1.2.1, r1.2.2.1, r1.2.2.2.1, by have := hlen.1; show c.length + p.length ≤ k; omega, by omega⟩
        refine px_PW.steps kt_19.2 5 rfl ?_
        refine px_PW.callV kt_19.2 rfl rfl rfl rfl (ct_push23 (r1) hk _) (by omega) (fun v h1 q => ?_)
        obtain ⟨rfl, Z2, N2, F2, rfl, r2, s2⟩ := q
        refine px_PW.steps kt_19.2 3 rfl ?_
        refine px_PW.br (fun c2 => ?_) (fun c2 => ?_)
        · have c2 : ¬ (x = 33) := of_decide_eq_false (px_nt c2)
          refine px_PW.steps kt_19.2 2 rfl ?_
          rw [e0] at H
          rw [if_neg c2] at H
          have g := ct_set_loop (Q := Q) hdd p (-x :: c) o (k + 1) Z2 N2 F2 (some (.int x)) (r2) (fun Z9 N9 F9 w2 w3 r9 s9 => H Z9 N9 F9 w2 w3 r9 (((t_same.rf.tr s1).tr s2).tr s9))
          rw [← zz_pm] at g
          exact g
        · have c2 : x = 33 := of_decide_eq_true (px_nf c2)
          refine px_PW.steps kt_19.2 5 rfl ?_
          refine px_op_15 kt_19.2 rfl ?_
          refine px_PW.steps kt_19.2 2 rfl ?_
          rw [e0] at H
          rw [if_pos c2] at H
          have g := ct_set_loop (Q := Q) hdd p (-x :: c) (o - 1) (k + 1) (upd Z2 15 ((Z2 15) - 1)) N2 F2 (some (.int x)) ((r2).om) (fun Z9 N9 F9 w2 w3 r9 s9 => H Z9 N9 F9 w2 w3 r9 ((((t_same.rf.tr s1).tr s2).tr (t_same.z (k := 15) (by omega))).tr s9))
          rw [← zz_pm] at g
          exact g
theorem ct_settle {Z N : Nat → Int32} {F : Nat → Nat → Int32} {c p : List Int32} {o d : Int32} {w : Bool} {k : Nat} (h : t_rep Z N F c p o d w k) (r : Int32) : px_PM 2 19 [.ref 55, .int r] (px_CH Z N F, []) (fun rr h' => rr = none ∧ ∃ (Z' N' : Nat → Int32) (F' : Nat → Nat → Int32), h' = (px_CH Z' N' F', []) ∧ t_rep Z' N' F' (t_stl r c p o).1 (t_stl r c p o).2.1 (t_stl r c p o).2.2 d w k ∧ t_same Z N F Z' N' F') := by
  refine px_PM.start (nL := 4) (code := pc_19) rfl rfl ?_
  refine px_PW.steps kt_19.2 2 rfl ?_
  refine px_PW.callV kt_19.2 rfl rfl rfl rfl (ct_size h) (by decide) (fun v h1 q => ?_)
  obtain ⟨rfl, rfl⟩ := q
  refine px_PW.steps kt_19.2 3 rfl ?_
  refine ct_set_loop (Nat.le_refl 1) p c o k Z N F none h (fun Z9 N9 F9 w2 w3 r9 s9 => ?_)
  refine px_PW.ret kt_19.2 rfl rfl ?_
  exact ⟨rfl, _, _, _, rfl, r9, s9⟩
def t_close (c p : List Int32) (o d : Int32) (w : Bool) : t_R × Bool := (if 1 ≤ (nI (t_stl 1 c p o).2.1.length) then (((t_stl 1 c p o).1, (t_stl 1 c p o).2.1.tail, ((t_stl 1 c p o).2.2 - 1), d, w), true) else (((t_stl 1 c p o).1, (t_stl 1 c p o).2.1, (t_stl 1 c p o).2.2, d, w), false))
theorem ct_close {Z N : Nat → Int32} {F : Nat → Nat → Int32} {c p : List Int32} {o d : Int32} {w : Bool} {k : Nat} (h : t_rep Z N F c p o d w k) (hk : k < 60) : px_PM 3 18 [.ref 55] (px_CH Z N F, []) (fun r h' => r = some (.int (if (t_close c p o d w).2 = true then 1 else 0)) ∧ ∃ (Z' N' : Nat → Int32) (F' : Nat → Nat → Int32), h' = (px_CH Z' N' F', []) ∧ t_rp Z' N' F' (t_close c p o d w).1 (k + 1) ∧ t_same Z N F Z' N' F') := by
  refine px_PM.start (nL := 1) (code := pc_18) rfl rfl ?_
  refine px_PW.steps kt_18.2 2 rfl ?_
  refine px_PW.callV kt_18.2 rfl rfl rfl rfl (ct_settle (h) _) (by decide) (fun v h1 q => ?_)
  obtain ⟨rfl, Z3, N3, F3, rfl, r3, s3⟩ := q
  refine px_PW.steps kt_18.2 2 rfl ?_
  refine px_PW.callV kt_18.2 rfl rfl rfl rfl (ct_size (r3)) (by decide) (fun v h1 q => ?_)
  obtain ⟨rfl, rfl⟩ := q
  refine px_PW.steps kt_18.2 2 rfl ?_
  refine px_PW.br (fun c0 => ?_) (fun c0 => ?_)
  · have c0 : 1 ≤ (nI (t_stl 1 c p o).2.1.length) := of_decide_eq_true c0
    refine px_PW.steps kt_18.2 2 rfl ?_
    refine px_PW.callV kt_18.2 rfl rfl rfl rfl (ct_pop24 (r3)) (by decide) (fun v h1 q => ?_)
    obtain ⟨rfl, Z4, N4, F4, rfl, r4, s4⟩ := q
    refine px_PW.steps kt_18.2 6 rfl ?_
    refine px_op_15 kt_18.2 rfl ?_
    refine px_PW.steps kt_18.2 1 rfl ?_
    refine px_PW.ret kt_18.2 rfl rfl ?_
    have E : t_close c p o d w = (((t_stl 1 c p o).1, (t_stl 1 c p o).2.1.tail, ((t_stl 1 c p o).2.2 - 1), d, w), true) := if_pos c0
    rw [E]
    exact ⟨rfl, _, _, _, rfl, ((r4).om).up hk, (((t_same.rf.tr s3).tr s4).tr (t_same.z (k := 15) (by omega)))⟩
  · have c0 : ¬ (1 ≤ (nI (t_stl 1 c p o).2.1.length)) := of_decide_eq_false c0
    refine px_PW.steps kt_18.2 1 rfl ?_
    refine px_PW.ret kt_18.2 rfl rfl ?_
    have E : t_close c p o d w = (((t_stl 1 c p o).1, (t_stl 1 c p o).2.1, (t_stl 1 c p o).2.2, d, w), false) := if_neg c0
    rw [E]
    exact ⟨rfl, _, _, _, rfl, (r3).up hk, (t_same.rf.tr s3)⟩
def t_dgt (s : Int32) (c p : List Int32) (o d : Int32) (w : Bool) : t_R × Bool := (if d < 1 then ((c, p, o, d, w), false) else (if d < 4 then ((((((c.headD 0) * 10) + s) :: c.tail), p, o, (d + 1), w), true) else ((c, p, o, d, w), false)))
theorem ct_dgt {Z N : Nat → Int32} {F : Nat → Nat → Int32} {c p : List Int32} {o d : Int32} {w : Bool} {k : Nat} (h : t_rep Z N F c p o d w k) (hk : k < 60) (s : Int32) : px_PM 2 17 [.ref 55, .int s] (px_CH Z N F, []) (fun r h' => r = some (.int (if (t_dgt s c p o d w).2 = true then 1 else 0)) ∧ ∃ (Z' N' : Nat → Int32) (F' : Nat → Nat → Int32), h' = (px_CH Z' N' F', []) ∧ t_rp Z' N' F' (t_dgt s c p o d w).1 (k + 1) ∧ t_same Z N F Z' N' F') := by
  refine px_PM.start (nL := 2) (code := pc_17) rfl rfl ?_
  refine px_PW.steps kt_17.2 4 rfl ?_
  refine px_PW.br (fun c0 => ?_) (fun c0 => ?_)
  · have c0 : (Z 16) < 1 := of_decide_eq_true c0
    rw [show Z 16 = d from (h).hd] at c0
    refine px_PW.steps kt_17.2 1 rfl ?_
    refine px_PW.ret kt_17.2 rfl rfl ?_
    have E : t_dgt s c p o d w = ((c, p, o, d, w), false) := if_pos c0
    rw [E]
    exact ⟨rfl, _, _, _, rfl, (h).up hk, t_same.rf⟩
  · have c0 : ¬ ((Z 16) < 1) := of_decide_eq_false c0
    rw [show Z 16 = d from (h).hd] at c0
    refine px_PW.steps kt_17.2 4 rfl ?_
    refine px_PW.br (fun c1 => ?_) (fun c1 => ?_)
    · have c1 : (Z 16) < 4 := of_decide_eq_true c1
      rw [show Z 16 = d from (h).hd] at c1
      refine px_PW.steps kt_17.2 4 rfl ?_
      refine px_PW.callV kt_17.2 rfl rfl rfl rfl (ct_pop23 (h)) (by decide) (fun v h1 q => ?_)
      obtain ⟨rfl, Z5, N5, F5, rfl, r5, s5⟩ := q
      refine px_PW.steps kt_17.2 4 rfl ?_
      refine px_PW.callV kt_17.2 rfl rfl rfl rfl (ct_push23 (r5) hk _) (by decide) (fun v h1 q => ?_)
      obtain ⟨rfl, Z6, N6, F6, rfl, r6, s6⟩ := q
      refine px_PW.steps kt_17.2 5 rfl ?_
      refine px_op_16 kt_17.2 rfl ?_
      refine px_PW.steps kt_17.2 1 rfl ?_
      refine px_PW.ret kt_17.2 rfl rfl ?_
      have E : t_dgt s c p o d w = ((((((c.headD 0) * 10) + s) :: c.tail), p, o, (d + 1), w), true) := (if_neg c0).trans (if_pos c1)
      rw [E]
      exact ⟨rfl, _, _, _, rfl, (r6).d1, (((t_same.rf.tr s5).tr s6).tr (t_same.z (k := 16) (by omega)))⟩
    · have c1 : ¬ ((Z 16) < 4) := of_decide_eq_false c1
      rw [show Z 16 = d from (h).hd] at c1
      refine px_PW.steps kt_17.2 1 rfl ?_
      refine px_PW.ret kt_17.2 rfl rfl ?_
      have E : t_dgt s c p o d w = ((c, p, o, d, w), false) := (if_neg c0).trans (if_neg c1)
      rw [E]
      exact ⟨rfl, _, _, _, rfl, (h).up hk, t_same.rf⟩
def t_goOn (s : Int32) (c p : List Int32) (o d : Int32) (w : Bool) : t_R × Bool := (if s < 48 ∨ 57 < s then (if s = 41 then (t_close c p o 0 w) else (if (t_rank s) < 1 then ((c, p, o, 0, w), false) else (if (t_rank s) < 6 then (if (t_rank s) = 3 then (if (t_rank s) = 3 then (if (t_rank ((t_stl ((t_rank s) + 1) c p o).2.1.headD 0)) = 3 then (((t_stl ((t_rank s) + 1) c p o).1, (t_stl ((t_rank s) + 1) c p o).2.1, (t_stl ((t_rank s) + 1) c p o).2.2, 0, w), false) else (((t_stl ((t_rank s) + 1) c p o).1, (s :: (t_stl ((t_rank s) + 1) c p o).2.1), (t_stl ((t_rank s) + 1) c p o).2.2, 0, true), true)) else (((t_stl ((t_rank s) + 1) c p o).1, (s :: (t_stl ((t_rank s) + 1) c p o).2.1), (t_stl ((t_rank s) + 1) c p o).2.2, 0, true), true)) else (if (t_rank s) = 3 then (if (t_rank ((t_stl (t_rank s) c p o).2.1.headD 0)) = 3 then (((t_stl (t_rank s) c p o).1, (t_stl (t_rank s) c p o).2.1, (t_stl (t_rank s) c p o).2.2, 0, w), false) else (((t_stl (t_rank s) c p o).1, (s :: (t_stl (t_rank s) c p o).2.1), (t_stl (t_rank s) c p o).2.2, 0, true), true)) else (((t_stl (t_rank s) c p o).1, (s :: (t_stl (t_rank s) c p o).2.1), (t_stl (t_rank s) c p o).2.2, 0, true), true))) else ((c, p, o, 0, w), false)))) else (t_dgt (s - 48) c p o d w))
theorem ct_goOn {Z N : Nat → Int32} {F : Nat → Nat → Int32} {c p : List Int32} {o d : Int32} {w : Bool} {k : Nat} (h : t_rep Z N F c p o d w k) (hk : k < 60) (s : Int32) : px_PM 4 16 [.ref 55, .int s] (px_CH Z N F, []) (fun r h' => r = some (.int (if (t_goOn s c p o d w).2 = true then 1 else 0)) ∧ ∃ (Z' N' : Nat → Int32) (F' : Nat → Nat → Int32), h' = (px_CH Z' N' F', []) ∧ t_rp Z' N' F' (t_goOn s c p o d w).1 (k + 1) ∧ t_same Z N F Z' N' F') := by
  refine px_PM.start (nL := 3) (code := pc_16) rfl rfl ?_
  refine px_PW.steps kt_16.2 1 rfl ?_
  refine px_PW.callS kt_16.2 rfl rfl rfl (ct_digit _ _) (by decide) (fun v h1 q => ?_)
  obtain ⟨rfl, rfl⟩ := q
  refine px_PW.steps kt_16.2 1 rfl ?_
  refine px_PW.br (fun c0 => ?_) (fun c0 => ?_)
  · have c0 : s < 48 ∨ 57 < s := px_b0z (of_decide_eq_true c0)
    refine px_PW.steps kt_16.2 2 rfl ?_
    refine px_op_16 kt_16.2 rfl ?_
    refine px_PW.steps kt_16.2 3 rfl ?_
    refine px_PW.br (fun c1 => ?_) (fun c1 => ?_)
    · have c1 : ¬ (s = 41) := of_decide_eq_false (px_nt c1)
      refine px_PW.steps kt_16.2 1 rfl ?_
      refine px_PW.callS kt_16.2 rfl rfl rfl (ct_rank _ _) (by decide) (fun v h1 q => ?_)
      obtain ⟨rfl, rfl⟩ := q
      refine px_PW.steps kt_16.2 4 rfl ?_
      refine px_PW.br (fun c2 => ?_) (fun c2 => ?_)
      · have c2 : (t_rank s) < 1 := of_decide_eq_true c2
        refine px_PW.steps kt_16.2 1 rfl ?_
        refine px_PW.ret kt_16.2 rfl rfl ?_
        have E : t_goOn s c p o d w = ((c, p, o, 0, w), false) := (if_pos c0).trans ((if_neg c1).trans (if_pos c2))
        rw [E]
        exact ⟨rfl, _, _, _, rfl, (((h).dx 0)).up hk, (t_same.rf.tr (t_same.z (k := 16) (by omega)))⟩
      · have c2 : ¬ ((t_rank s) < 1) := of_decide_eq_false c2
        refine px_PW.steps kt_16.2 3 rfl ?_
        refine px_PW.br (fun c3 => ?_) (fun c3 => ?_)
        · have c3 : (t_rank s) < 6 := of_decide_eq_true c3
          refine px_PW.steps kt_16.2 4 rfl ?_
          refine px_PW.br (fun c4 => ?_) (fun c4 => ?_)
          · have c4 : ¬ ((t_rank s) = 3) := of_decide_eq_false (px_nt c4)
            refine px_PW.steps kt_16.2 1 rfl ?_
            refine px_PW.callV kt_16.2 rfl rfl rfl rfl (ct_settle (((h).dx 0)) _) (by decide) (fun v h1 q => ?_)
            obtain ⟨rfl, Z7, N7, F7, rfl, r7, s7⟩ := q
            refine px_PW.steps kt_16.2 3 rfl ?_
            refine px_PW.br (fun c5 => ?_) (fun c5 => ?_)
            · have c5 : ¬ ((t_rank s) = 3) := of_decide_eq_false (px_nt c5)
              refine px_PW.steps kt_16.2 3 rfl ?_
              refine px_PW.callV kt_16.2 rfl rfl rfl rfl (ct_push24 (r7) hk _) (by decide) (fun v h1 q => ?_)
              obtain ⟨rfl, Z8, N8, F8, rfl, r8, s8⟩ := q
              refine px_PW.steps kt_16.2 2 rfl ?_
              refine px_op_17 kt_16.2 (by rfl) rfl ?_
              refine px_PW.steps kt_16.2 1 rfl ?_
              refine px_PW.ret kt_16.2 rfl rfl ?_
              have E : t_goOn s c p o d w = (((t_stl (t_rank s) c p o).1, (s :: (t_stl (t_rank s) c p o).2.1), (t_stl (t_rank s) c p o).2.2, 0, true), true) := (if_pos c0).trans ((if_neg c1).trans ((if_neg c2).trans ((if_pos c3).trans ((if_neg c4).trans (if_neg c5)))))
              rw [E]
              exact ⟨rfl, _, _, _, rfl, (r8).w1, ((((t_same.rf.tr (t_same.z (k := 16) (by omega))).tr s7).tr s8).tr (t_same.z (k := 17) (by omega)))⟩
            · have c5 : (t_rank s) = 3 := of_decide_eq_true (px_nf c5)
              refine px_PW.steps kt_16.2 4 rfl ?_
              refine px_PW.callV kt_16.2 rfl rfl rfl rfl (ct_size (r7)) (by decide) (fun v h1 q => ?_)
              obtain ⟨rfl, rfl⟩ := q
              refine px_PW.steps kt_16.2 2 rfl ?_
              refine px_PW.callV kt_16.2 rfl rfl rfl rfl (ct_top (r7)) (by decide) (fun v h1 q => ?_)
              obtain ⟨rfl, rfl⟩ := q
              refine px_PW.callS kt_16.2 rfl rfl rfl (ct_rank _ _) (by decide) (fun v h1 q => ?_)
              obtain ⟨rfl, rfl⟩ := q
              refine px_PW.steps kt_16.2 2 rfl ?_
              refine px_PW.br (fun c6 => ?_) (fun c6 => ?_)
              · have c6 : ¬ ((t_rank ((t_stl (t_rank s) c p o).2.1.headD 0)) = 3) := of_decide_eq_false (px_nt c6)
                refine px_PW.steps kt_16.2 3 rfl ?_
                refine px_PW.callV kt_16.2 rfl rfl rfl rfl (ct_push24 (r7) hk _) (by decide) (fun v h1 q => ?_)
                obtain ⟨rfl, Z9, N9, F9, rfl, r9, s9⟩ := q
                refine px_PW.steps kt_16.2 2 rfl ?_
                refine px_op_17 kt_16.2 (by rfl) rfl ?_
                refine px_PW.steps kt_16.2 1 rfl ?_
                refine px_PW.ret kt_16.2 rfl rfl ?_
                have E : t_goOn s c p o d w = (((t_stl (t_rank s) c p o).1, (s :: (t_stl (t_rank s) c p o).2.1), (t_stl (t_rank s) c p o).2.2, 0, true), true) := (if_pos c0).trans ((if_neg c1).trans ((if_neg c2).trans ((if_pos c3).trans ((if_neg c4).trans ((if_pos c5).trans (if_neg c6))))))
                rw [E]
                exact ⟨rfl, _, _, _, rfl, (r9).w1, ((((t_same.rf.tr (t_same.z (k := 16) (by omega))).tr s7).tr s9).tr (t_same.z (k := 17) (by omega)))⟩
              · have c6 : (t_rank ((t_stl (t_rank s) c p o).2.1.headD 0)) = 3 := of_decide_eq_true (px_nf c6)
                refine px_PW.steps kt_16.2 1 rfl ?_
                refine px_PW.ret kt_16.2 rfl rfl ?_
                have E : t_goOn s c p o d w = (((t_stl (t_rank s) c p o).1, (t_stl (t_rank s) c p o).2.1, (t_stl (t_rank s) c p o).2.2, 0, w), false) := (if_pos c0).trans ((if_neg c1).trans ((if_neg c2).trans ((if_pos c3).trans ((if_neg c4).trans ((if_pos c5).trans (if_pos c6))))))
                rw [E]
                exact ⟨rfl, _, _, _, rfl, (r7).up hk, ((t_same.rf.tr (t_same.z (k := 16) (by omega))).tr s7)⟩
          · have c4 : (t_rank s) = 3 := of_decide_eq_true (px_nf c4)
            refine px_PW.steps kt_16.2 4 rfl ?_
            refine px_PW.callV kt_16.2 rfl rfl rfl rfl (ct_settle (((h).dx 0)) _) (by decide) (fun v h1 q => ?_)
            obtain ⟨rfl, Z10, N10, F10, rfl, r10, s10⟩ := q
            refine px_PW.steps kt_16.2 3 rfl ?_
            refine px_PW.br (fun c7 => ?_) (fun c7 => ?_)
            · have c7 : ¬ ((t_rank s) = 3) := of_decide_eq_false (px_nt c7)
              refine px_PW.steps kt_16.2 3 rfl ?_
              refine px_PW.callV kt_16.2 rfl rfl rfl rfl (ct_push24 (r10) hk _) (by decide) (fun v h1 q => ?_)
              obtain ⟨rfl, Z11, N11, F11, rfl, r11, s11⟩ := q
              refine px_PW.steps kt_16.2 2 rfl ?_
              refine px_op_17 kt_16.2 (by rfl) rfl ?_
              refine px_PW.steps kt_16.2 1 rfl ?_
              refine px_PW.ret kt_16.2 rfl rfl ?_
              have E : t_goOn s c p o d w = (((t_stl ((t_rank s) + 1) c p o).1, (s :: (t_stl ((t_rank s) + 1) c p o).2.1), (t_stl ((t_rank s) + 1) c p o).2.2, 0, true), true) := (if_pos c0).trans ((if_neg c1).trans ((if_neg c2).trans ((if_pos c3).trans ((if_pos c4).trans (if_neg c7)))))
              rw [E]
              exact ⟨rfl, _, _, _, rfl, (r11).w1, ((((t_same.rf.tr (t_same.z (k := 16) (by omega))).tr s10).tr s11).tr (t_same.z (k := 17) (by omega)))⟩
            · have c7 : (t_rank s) = 3 := of_decide_eq_true (px_nf c7)
              refine px_PW.steps kt_16.2 4 rfl ?_
              refine px_PW.callV kt_16.2 rfl rfl rfl rfl (ct_size (r10)) (by decide) (fun v h1 q => ?_)
              obtain ⟨rfl, rfl⟩ := q
              refine px_PW.steps kt_16.2 2 rfl ?_
              refine px_PW.callV kt_16.2 rfl rfl rfl rfl (ct_top (r10)) (by decide) (fun v h1 q => ?_)
              obtain ⟨rfl, rfl⟩ := q
              refine px_PW.callS kt_16.2 rfl rfl rfl (ct_rank _ _) (by decide) (fun v h1 q => ?_)
              obtain ⟨rfl, rfl⟩ := q
              refine px_PW.steps kt_16.2 2 rfl ?_
              refine px_PW.br (fun c8 => ?_) (fun c8 => ?_)
              · have c8 : ¬ ((t_rank ((t_stl ((t_rank s) + 1) c p o).2.1.headD 0)) = 3) := of_decide_eq_false (px_nt c8)
                refine px_PW.steps kt_16.2 3 rfl ?_
                refine px_PW.callV kt_16.2 rfl rfl rfl rfl (ct_push24 (r10) hk _) (by decide) (fun v h1 q => ?_)
                obtain ⟨rfl, Z12, N12, F12, rfl, r12, s12⟩ := q
                refine px_PW.steps kt_16.2 2 rfl ?_
                refine px_op_17 kt_16.2 (by rfl) rfl ?_
                refine px_PW.steps kt_16.2 1 rfl ?_
                refine px_PW.ret kt_16.2 rfl rfl ?_
                have E : t_goOn s c p o d w = (((t_stl ((t_rank s) + 1) c p o).1, (s :: (t_stl ((t_rank s) + 1) c p o).2.1), (t_stl ((t_rank s) + 1) c p o).2.2, 0, true), true) := (if_pos c0).trans ((if_neg c1).trans ((if_neg c2).trans ((if_pos c3).trans ((if_pos c4).trans ((if_pos c7).trans (if_neg c8))))))
                rw [E]
                exact ⟨rfl, _, _, _, rfl, (r12).w1, ((((t_same.rf.tr (t_same.z (k := 16) (by omega))).tr s10).tr s12).tr (t_same.z (k := 17) (by omega)))⟩
              · have c8 : (t_rank ((t_stl ((t_rank s) + 1) c p o).2.1.headD 0)) = 3 := of_decide_eq_true (px_nf c8)
                refine px_PW.steps kt_16.2 1 rfl ?_
                refine px_PW.ret kt_16.2 rfl rfl ?_
                have E : t_goOn s c p o d w = (((t_stl ((t_rank s) + 1) c p o).1, (t_stl ((t_rank s) + 1) c p o).2.1, (t_stl ((t_rank s) + 1) c p o).2.2, 0, w), false) := (if_pos c0).trans ((if_neg c1).trans ((if_neg c2).trans ((if_pos c3).trans ((if_pos c4).trans ((if_pos c7).trans (if_pos c8))))))
                rw [E]
                exact ⟨rfl, _, _, _, rfl, (r10).up hk, ((t_same.rf.tr (t_same.z (k := 16) (by omega))).tr s10)⟩
        · have c3 : ¬ ((t_rank s) < 6) := of_decide_eq_false c3
          refine px_PW.steps kt_16.2 1 rfl ?_
          refine px_PW.ret kt_16.2 rfl rfl ?_
          have E : t_goOn s c p o d w = ((c, p, o, 0, w), false) := (if_pos c0).trans ((if_neg c1).trans ((if_neg c2).trans (if_neg c3)))
          rw [E]
          exact ⟨rfl, _, _, _, rfl, (((h).dx 0)).up hk, (t_same.rf.tr (t_same.z (k := 16) (by omega)))⟩
    · have c1 : s = 41 := of_decide_eq_true (px_nf c1)
      refine px_PW.steps kt_16.2 1 rfl ?_
      refine px_PW.callV kt_16.2 rfl rfl rfl rfl (ct_close (((h).dx 0)) hk) (by decide) (fun v h1 q => ?_)
      obtain ⟨rfl, Z13, N13, F13, rfl, r13, s13⟩ := q
      refine px_PW.retB kt_16.2 rfl px_zb1 ?_
      have E : t_goOn s c p o d w = (t_close c p o 0 w) := (if_pos c0).trans (if_pos c1)
      rw [E]
      exact ⟨rfl, _, _, _, rfl, r13, ((t_same.rf.tr (t_same.z (k := 16) (by omega))).tr s13)⟩
  · have c0 : ¬ (s < 48 ∨ 57 < s) := px_b0n (of_decide_eq_false c0)
    refine px_PW.steps kt_16.2 4 rfl ?_
    refine px_PW.callV kt_16.2 rfl rfl rfl rfl (ct_dgt (h) hk _) (by decide) (fun v h1 q => ?_)
    obtain ⟨rfl, Z14, N14, F14, rfl, r14, s14⟩ := q
    refine px_PW.retB kt_16.2 rfl px_zb1 ?_
    have E : t_goOn s c p o d w = (t_dgt (s - 48) c p o d w) := if_neg c0
    rw [E]
    exact ⟨rfl, _, _, _, rfl, r14, (t_same.rf.tr s14)⟩
theorem jk_indexS {u : Nat} (hu : u ≤ 1) (s : Int32) (h : px_H) : px_PM 5 207 [.ref (t_nm u), .int ((s.toUInt32 % 65536).toInt32)] h (fun r h' => r = some (.int (t_ix u ((s.toUInt32 % 65536).toInt32))) ∧ h' = h) := by
  obtain ⟨n, hn, e⟩ := jk_i2c s
  rw [e]
  exact jk_index hu hn h
def t_begin (u : Nat) (s : Int32) (c p : List Int32) (o d : Int32) (w : Bool) : t_R × Bool := (if s = 33 then (if 5 < (o + 1) then ((c, (s :: p), (o + 1), d, w), false) else ((c, (s :: p), (o + 1), d, w), true)) else (if s = 40 then (if 5 < (o + 1) then ((c, (s :: p), (o + 1), d, w), false) else ((c, (s :: p), (o + 1), d, w), true)) else (if s < 48 ∨ 57 < s then (if (t_ix u ((s).toUInt32 % 65536).toInt32) < 0 then (((((-1) - (t_ix u ((s).toUInt32 % 65536).toInt32)) :: c), p, o, d, false), false) else (((((-1) - (t_ix u ((s).toUInt32 % 65536).toInt32)) :: c), p, o, d, false), true)) else ((((s - 48) :: c), p, o, 1, false), true))))
theorem ct_begin {Z N : Nat → Int32} {F : Nat → Nat → Int32} {c p : List Int32} {o d : Int32} {w : Bool} {k : Nat} (h : t_rep Z N F c p o d w k) (hk : k < 60) {u : Nat} (hu : u ≤ 1) (s : Int32) : px_PM 6 15 [.ref 55, .int s, .ref (t_nm u)] (px_CH Z N F, []) (fun r h' => r = some (.int (if (t_begin u s c p o d w).2 = true then 1 else 0)) ∧ ∃ (Z' N' : Nat → Int32) (F' : Nat → Nat → Int32), h' = (px_CH Z' N' F', []) ∧ t_rp Z' N' F' (t_begin u s c p o d w).1 (k + 1) ∧ t_same Z N F Z' N' F') := by
  refine px_PM.start (nL := 4) (code := pc_15) rfl rfl ?_
  refine px_PW.steps kt_15.2 3 rfl ?_
  refine px_PW.br (fun c0 => ?_) (fun c0 => ?_)
  · have c0 : s = 33 := of_decide_eq_true c0
    refine px_PW.steps kt_15.2 3 rfl ?_
    refine px_PW.callV kt_15.2 rfl rfl rfl rfl (ct_push24 (h) hk _) (by decide) (fun v h1 q => ?_)
    obtain ⟨rfl, Z15, N15, F15, rfl, r15, s15⟩ := q
    refine px_PW.steps kt_15.2 5 rfl ?_
    refine px_op_15 kt_15.2 rfl ?_
    refine px_PW.steps kt_15.2 4 rfl ?_
    refine px_PW.br (fun c1 => ?_) (fun c1 => ?_)
    · have c1 : 5 < ((Z15 15) + 1) := of_decide_eq_true c1
      rw [show Z15 15 = o from (r15).ho] at c1
      refine px_PW.steps kt_15.2 1 rfl ?_
      refine px_PW.ret kt_15.2 rfl rfl ?_
      have E : t_begin u s c p o d w = ((c, (s :: p), (o + 1), d, w), false) := (if_pos c0).trans (if_pos c1)
      rw [E]
      exact ⟨rfl, _, _, _, rfl, (r15).o1, ((t_same.rf.tr s15).tr (t_same.z (k := 15) (by omega)))⟩
    · have c1 : ¬ (5 < ((Z15 15) + 1)) := of_decide_eq_false c1
      rw [show Z15 15 = o from (r15).ho] at c1
      refine px_PW.steps kt_15.2 2 rfl ?_
      refine px_PW.ret kt_15.2 rfl rfl ?_
      have E : t_begin u s c p o d w = ((c, (s :: p), (o + 1), d, w), true) := (if_pos c0).trans (if_neg c1)
      rw [E]
      exact ⟨rfl, _, _, _, rfl, (r15).o1, ((t_same.rf.tr s15).tr (t_same.z (k := 15) (by omega)))⟩
  · have c0 : ¬ (s = 33) := of_decide_eq_false c0
    refine px_PW.steps kt_15.2 3 rfl ?_
    refine px_PW.br (fun c2 => ?_) (fun c2 => ?_)
    · have c2 : ¬ (s = 40) := of_decide_eq_false (px_nt c2)
      refine px_PW.steps kt_15.2 2 rfl ?_
      refine px_op_17 kt_15.2 (by rfl) rfl ?_
      refine px_PW.steps kt_15.2 1 rfl ?_
      refine px_PW.callS kt_15.2 rfl rfl rfl (ct_digit _ _) (by decide) (fun v h1 q => ?_)
      obtain ⟨rfl, rfl⟩ := q
      refine px_PW.steps kt_15.2 1 rfl ?_
      refine px_PW.br (fun c3 => ?_) (fun c3 => ?_)
      · have c3 : s < 48 ∨ 57 < s := px_b0z (of_decide_eq_true c3)
        refine px_PW.steps kt_15.2 3 rfl ?_
        refine px_PW.callK kt_15.2 rfl rfl (by rcases (show u = 0 ∨ u = 1 by omega) with rfl | rfl <;> rfl) rfl (jk_indexS hu s _) (by decide) (fun v h1 q => ?_)
        obtain ⟨rfl, rfl⟩ := q
        refine px_PW.steps kt_15.2 6 rfl ?_
        refine px_PW.callV kt_15.2 rfl rfl rfl rfl (ct_push23 ((h).w0) hk _) (by decide) (fun v h1 q => ?_)
        obtain ⟨rfl, Z16, N16, F16, rfl, r16, s16⟩ := q
        refine px_PW.steps kt_15.2 2 rfl ?_
        refine px_PW.br (fun c4 => ?_) (fun c4 => ?_)
        · have c4 : (t_ix u ((s).toUInt32 % 65536).toInt32) < 0 := of_decide_eq_true c4
          refine px_PW.steps kt_15.2 1 rfl ?_
          refine px_PW.ret kt_15.2 rfl rfl ?_
          have E : t_begin u s c p o d w = (((((-1) - (t_ix u ((s).toUInt32 % 65536).toInt32)) :: c), p, o, d, false), false) := (if_neg c0).trans ((if_neg c2).trans ((if_pos c3).trans (if_pos c4)))
          rw [E]
          exact ⟨rfl, _, _, _, rfl, r16, ((t_same.rf.tr (t_same.z (k := 17) (by omega))).tr s16)⟩
        · have c4 : ¬ ((t_ix u ((s).toUInt32 % 65536).toInt32) < 0) := of_decide_eq_false c4
          refine px_PW.steps kt_15.2 2 rfl ?_
          refine px_PW.ret kt_15.2 rfl rfl ?_
          have E : t_begin u s c p o d w = (((((-1) - (t_ix u ((s).toUInt32 % 65536).toInt32)) :: c), p, o, d, false), true) := (if_neg c0).trans ((if_neg c2).trans ((if_pos c3).trans (if_neg c4)))
          rw [E]
          exact ⟨rfl, _, _, _, rfl, r16, ((t_same.rf.tr (t_same.z (k := 17) (by omega))).tr s16)⟩
      · have c3 : ¬ (s < 48 ∨ 57 < s) := px_b0n (of_decide_eq_false c3)
        refine px_PW.steps kt_15.2 5 rfl ?_
        refine px_PW.callV kt_15.2 rfl rfl rfl rfl (ct_push23 ((h).w0) hk _) (by decide) (fun v h1 q => ?_)
        obtain ⟨rfl, Z17, N17, F17, rfl, r17, s17⟩ := q
        refine px_PW.steps kt_15.2 2 rfl ?_
        refine px_op_16 kt_15.2 rfl ?_
        refine px_PW.steps kt_15.2 1 rfl ?_
        refine px_PW.ret kt_15.2 rfl rfl ?_
        have E : t_begin u s c p o d w = ((((s - 48) :: c), p, o, 1, false), true) := (if_neg c0).trans ((if_neg c2).trans (if_neg c3))
        rw [E]
        exact ⟨rfl, _, _, _, rfl, ((r17).dx 1), (((t_same.rf.tr (t_same.z (k := 17) (by omega))).tr s17).tr (t_same.z (k := 16) (by omega)))⟩
    · have c2 : s = 40 := of_decide_eq_true (px_nf c2)
      refine px_PW.steps kt_15.2 3 rfl ?_
      refine px_PW.callV kt_15.2 rfl rfl rfl rfl (ct_push24 (h) hk _) (by decide) (fun v h1 q => ?_)
      obtain ⟨rfl, Z18, N18, F18, rfl, r18, s18⟩ := q
      refine px_PW.steps kt_15.2 5 rfl ?_
      refine px_op_15 kt_15.2 rfl ?_
      refine px_PW.steps kt_15.2 4 rfl ?_
      refine px_PW.br (fun c5 => ?_) (fun c5 => ?_)
      · have c5 : 5 < ((Z18 15) + 1) := of_decide_eq_true c5
        rw [show Z18 15 = o from (r18).ho] at c5
        refine px_PW.steps kt_15.2 1 rfl ?_
        refine px_PW.ret kt_15.2 rfl rfl ?_
        have E : t_begin u s c p o d w = ((c, (s :: p), (o + 1), d, w), false) := (if_neg c0).trans ((if_pos c2).trans (if_pos c5))
        rw [E]
        exact ⟨rfl, _, _, _, rfl, (r18).o1, ((t_same.rf.tr s18).tr (t_same.z (k := 15) (by omega)))⟩
      · have c5 : ¬ (5 < ((Z18 15) + 1)) := of_decide_eq_false c5
        rw [show Z18 15 = o from (r18).ho] at c5
        refine px_PW.steps kt_15.2 2 rfl ?_
        refine px_PW.ret kt_15.2 rfl rfl ?_
        have E : t_begin u s c p o d w = ((c, (s :: p), (o + 1), d, w), true) := (if_neg c0).trans ((if_pos c2).trans (if_neg c5))
        rw [E]
        exact ⟨rfl, _, _, _, rfl, (r18).o1, ((t_same.rf.tr s18).tr (t_same.z (k := 15) (by omega)))⟩
