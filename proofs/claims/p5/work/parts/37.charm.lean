theorem px_nq {N : Nat → Int32} (hw : px_cw N) {q : Nat} (hq : q < 27) : N q = nI (N q).toNatClampNeg ∧ (N q).toNatClampNeg ≤ 60 := by
  have h := hw.2.2.2 q hq
  have hb := (px_lim_i hq).2
  obtain ⟨n, hn, e⟩ := nI_of (Int32.not_lt.mpr h.1)
  rw [e, nI_clamp hn]
  have h2 := h.2
  rw [e, nI_toInt hn] at h2
  exact ⟨rfl, by omega⟩
theorem px_sc25 {Z N : Nat → Int32} {F : Nat → Nat → Int32} {x : Int32} {g : Nat → Int32} (he : 0 ≤ x ∧ x.toInt ≤ 60) : px_sc Z N F Z (upd N 25 x) (va_up F 25 g) := by
  refine ⟨fun i hi => rfl, fun q hq => px_upd_ne N _ (by omega), fun q hq => px_up_ne F _ (by omega), fun h => ?_⟩
  refine ⟨h.1, h.2.1, h.2.2.1, fun q hq => ?_⟩
  by_cases c : q = 25
  · subst c
    rw [px_upd_self]
    exact he
  · rw [px_upd_ne N _ c]
    exact h.2.2.2 q hq
theorem px_cw25 {N : Nat → Int32} (hw : px_cw N) {x : Int32} (he : 0 ≤ x ∧ x.toInt ≤ 60) : px_cw (upd N 25 x) := (px_sc25 (Z := N) (F := fun _ => N) (g := N) he).2.2.2 hw
theorem px_e60 {e : Nat} (he : e ≤ 60) : 0 ≤ nI e ∧ (nI e).toInt ≤ 60 := ⟨nI_pos' (by omega), by rw [nI_toInt (by omega)]; omega⟩
def s_tx (N : Nat → Int32) (F : Nat → Nat → Int32) (q : Nat) (a b c : Int32) : Int32 := (s_evs (F q) a b c (N q).toNatClampNeg 0 []).headD 0
def s_ruled0 (N : Nat → Int32) (F : Nat → Nat → Int32) (a b c : Int32) : Int32 := (if (N 6) ≤ 0 then (i_max 0 (i_min 99 (a / 3))) else (i_max 0 (i_min 99 (s_tx N F 6 a b c))))
theorem cv_ruled0 {Z N : Nat → Int32} {F : Nat → Nat → Int32} (hw : px_cw N) (a b c : Int32) : px_PM 4 113 [.ref 0, .int 0, .int a, .int b, .int c] (px_CH Z N F, []) (fun r h' => r = some (.int (s_ruled0 N F a b c)) ∧ ∃ (x : Int32) (g : Nat → Int32), (0 ≤ x ∧ x.toInt ≤ 60) ∧ h' = (px_CH Z (upd N 25 x) (va_up F 25 g), [])) := by
  refine px_PM.start (nL := 8) (code := pc_113) rfl rfl ?_
  refine px_PW.steps kt_113.2 3 rfl ?_
  refine px_PW.callV kt_113.2 rfl rfl rfl rfl (cc_textOf0) (by decide) (fun v h1 q => ?_)
  obtain ⟨rfl, rfl⟩ := q
  refine px_PW.steps kt_113.2 2 rfl ?_
  refine px_PW.callV kt_113.2 rfl rfl rfl rfl (nb_size (q := 6) (by decide)) (by decide) (fun v h1 q => ?_)
  obtain ⟨rfl, rfl⟩ := q
  refine px_PW.steps kt_113.2 1 rfl ?_
  refine px_PW.br (fun c0 => ?_) (fun c0 => ?_)
  · have c0 : (N 6) ≤ 0 := of_decide_eq_true c0
    refine px_PW.steps kt_113.2 4 rfl ?_
    refine px_PW.br (fun c1 => ?_) (fun c1 => ?_)
    · have c1 : 0 = 0 := of_decide_eq_true c1
      refine px_PW.steps kt_113.2 5 rfl ?_
      refine px_PW.br (fun c2 => ?_) (fun c2 => ?_)
      · have c2 : ¬ ((0 : Int32) = 1) := of_decide_eq_false (px_nt c2)
        refine px_PW.steps kt_113.2 2 rfl ?_
        refine px_PW.br (fun c3 => ?_) (fun c3 => ?_)
        · have c3 : 0 = 0 := of_decide_eq_true c3
          refine px_PW.steps kt_113.2 5 rfl ?_
          refine px_PW.callS kt_113.2 rfl rfl rfl (cc_within _ _ _ _) (by decide) (fun v h1 q => ?_)
          obtain ⟨rfl, rfl⟩ := q
          refine px_PW.ret kt_113.2 rfl rfl ?_
          have E : s_ruled0 N F a b c = (i_max 0 (i_min 99 (a / 3))) := if_pos c0
          rw [E]
          exact ⟨rfl, N 25, F 25, ⟨hw.nn (q := 25) (by decide), hw.lim (q := 25) (by decide)⟩, by rw [zz_ui, px_up_id]⟩
        · have c3 : ¬ (0 = 0) := of_decide_eq_false c3
          exact absurd rfl c3
      · have c2 : (0 : Int32) = 1 := of_decide_eq_true (px_nf c2)
        exact absurd c2 (by decide)
    · have c1 : ¬ (0 = 0) := of_decide_eq_false c1
      exact absurd rfl c1
  · have c0 : ¬ ((N 6) ≤ 0) := of_decide_eq_false c0
    refine px_PW.steps kt_113.2 5 rfl ?_
    refine px_PW.br (fun c4 => ?_) (fun c4 => ?_)
    · have c4 : 1 = 0 := of_decide_eq_true c4
      exact absurd c4 (by decide)
    · have c4 : ¬ (1 = 0) := of_decide_eq_false c4
      refine px_PW.steps kt_113.2 6 rfl ?_
      refine px_PW.callV kt_113.2 rfl rfl rfl rfl (cv_val6 (px_nq hw (by decide)).1 (px_nq hw (q := 6) (by decide)).2 _ _ _) (by decide) (fun v h1 q => ?_)
      obtain ⟨rfl, e9, g9, he9, rfl⟩ := q
      refine px_PW.steps kt_113.2 5 rfl ?_
      refine px_PW.br (fun c5 => ?_) (fun c5 => ?_)
      · have c5 : ¬ ((0 : Int32) = 1) := of_decide_eq_false (px_nt c5)
        refine px_PW.steps kt_113.2 2 rfl ?_
        refine px_PW.br (fun c6 => ?_) (fun c6 => ?_)
        · have c6 : 1 = 0 := of_decide_eq_true c6
          exact absurd c6 (by decide)
        · have c6 : ¬ (1 = 0) := of_decide_eq_false c6
          refine px_PW.steps kt_113.2 4 rfl ?_
          refine px_PW.callS kt_113.2 rfl rfl rfl (cc_within _ _ _ _) (by decide) (fun v h1 q => ?_)
          obtain ⟨rfl, rfl⟩ := q
          refine px_PW.ret kt_113.2 rfl rfl ?_
          have E : s_ruled0 N F a b c = (i_max 0 (i_min 99 (s_tx N F 6 a b c))) := if_neg c0
          rw [E]
          exact ⟨rfl, nI e9, g9, px_e60 he9, rfl⟩
      · have c5 : (0 : Int32) = 1 := of_decide_eq_true (px_nf c5)
        exact absurd c5 (by decide)
def s_ruled1 (N : Nat → Int32) (F : Nat → Nat → Int32) (a b c : Int32) : Int32 := (if (N 7) ≤ 0 then (i_max (-99) (i_min 99 a)) else (i_max (-99) (i_min 99 (s_tx N F 7 a b c))))
theorem cv_ruled1 {Z N : Nat → Int32} {F : Nat → Nat → Int32} (hw : px_cw N) (a b c : Int32) : px_PM 4 113 [.ref 0, .int 1, .int a, .int b, .int c] (px_CH Z N F, []) (fun r h' => r = some (.int (s_ruled1 N F a b c)) ∧ ∃ (x : Int32) (g : Nat → Int32), (0 ≤ x ∧ x.toInt ≤ 60) ∧ h' = (px_CH Z (upd N 25 x) (va_up F 25 g), [])) := by
  refine px_PM.start (nL := 8) (code := pc_113) rfl rfl ?_
  refine px_PW.steps kt_113.2 3 rfl ?_
  refine px_PW.callV kt_113.2 rfl rfl rfl rfl (cc_textOf1) (by decide) (fun v h1 q => ?_)
  obtain ⟨rfl, rfl⟩ := q
  refine px_PW.steps kt_113.2 2 rfl ?_
  refine px_PW.callV kt_113.2 rfl rfl rfl rfl (nb_size (q := 7) (by decide)) (by decide) (fun v h1 q => ?_)
  obtain ⟨rfl, rfl⟩ := q
  refine px_PW.steps kt_113.2 1 rfl ?_
  refine px_PW.br (fun c0 => ?_) (fun c0 => ?_)
  · have c0 : (N 7) ≤ 0 := of_decide_eq_true c0
    refine px_PW.steps kt_113.2 4 rfl ?_
    refine px_PW.br (fun c1 => ?_) (fun c1 => ?_)
    · have c1 : 0 = 0 := of_decide_eq_true c1
      refine px_PW.steps kt_113.2 5 rfl ?_
      refine px_PW.br (fun c2 => ?_) (fun c2 => ?_)
      · have c2 : ¬ ((1 : Int32) = 1) := of_decide_eq_false (px_nt c2)
        exact absurd rfl c2
      · have c2 : (1 : Int32) = 1 := of_decide_eq_true (px_nf c2)
        refine px_PW.steps kt_113.2 3 rfl ?_
        refine px_PW.callS kt_113.2 rfl rfl rfl (cc_within _ _ _ _) (by decide) (fun v h1 q => ?_)
        obtain ⟨rfl, rfl⟩ := q
        refine px_PW.ret kt_113.2 rfl rfl ?_
        have E : s_ruled1 N F a b c = (i_max (-99) (i_min 99 a)) := if_pos c0
        rw [E]
        exact ⟨rfl, N 25, F 25, ⟨hw.nn (q := 25) (by decide), hw.lim (q := 25) (by decide)⟩, by rw [zz_ui, px_up_id]⟩
    · have c1 : ¬ (0 = 0) := of_decide_eq_false c1
      exact absurd rfl c1
  · have c0 : ¬ ((N 7) ≤ 0) := of_decide_eq_false c0
    refine px_PW.steps kt_113.2 5 rfl ?_
    refine px_PW.br (fun c3 => ?_) (fun c3 => ?_)
    · have c3 : 1 = 0 := of_decide_eq_true c3
      exact absurd c3 (by decide)
    · have c3 : ¬ (1 = 0) := of_decide_eq_false c3
      refine px_PW.steps kt_113.2 6 rfl ?_
      refine px_PW.callV kt_113.2 rfl rfl rfl rfl (cv_val7 (px_nq hw (by decide)).1 (px_nq hw (q := 7) (by decide)).2 _ _ _) (by decide) (fun v h1 q => ?_)
      obtain ⟨rfl, e9, g9, he9, rfl⟩ := q
      refine px_PW.steps kt_113.2 5 rfl ?_
      refine px_PW.br (fun c4 => ?_) (fun c4 => ?_)
      · have c4 : ¬ ((1 : Int32) = 1) := of_decide_eq_false (px_nt c4)
        exact absurd rfl c4
      · have c4 : (1 : Int32) = 1 := of_decide_eq_true (px_nf c4)
        refine px_PW.steps kt_113.2 3 rfl ?_
        refine px_PW.callS kt_113.2 rfl rfl rfl (cc_within _ _ _ _) (by decide) (fun v h1 q => ?_)
        obtain ⟨rfl, rfl⟩ := q
        refine px_PW.ret kt_113.2 rfl rfl ?_
        have E : s_ruled1 N F a b c = (i_max (-99) (i_min 99 (s_tx N F 7 a b c))) := if_neg c0
        rw [E]
        exact ⟨rfl, nI e9, g9, px_e60 he9, rfl⟩
def s_look (Z : Nat → Int32) (f t : Int32) : Nat → Int32 := (upd (upd (upd (upd Z 11 ((i_min ((Z 10) - 1) (w_beh Z ((t + (Z 9)) + 1))) - (i_min ((Z 10) - 1) (w_beh Z f)))) 13 ((1 + (i_min ((Z 10) - 1) (w_beh Z t))) - (w_enb Z f))) 14 (w_ofE Z (w_hid Z 0 f t) (w_hid Z ((Z 10) - 1) f t))) 12 (i_min (w_gb Z (1 + (i_min ((Z 10) - 1) (w_beh Z f))) f) (w_ge Z (w_enb Z t) t)))
theorem cv_look {Z N : Nat → Int32} {F : Nat → Nat → Int32} (f t : Int32) : px_PM 4 32 [.ref 54, .int f, .int t] (px_CH Z N F, []) (fun r h' => r = none ∧ h' = (px_CH (s_look Z f t) N F, [])) := by
  refine px_PM.start (nL := 5) (code := pc_32) rfl rfl ?_
  refine px_PW.steps kt_32.2 8 rfl ?_
  refine px_PW.callV kt_32.2 rfl rfl rfl rfl (rw_beh _) (by decide) (fun v h1 q => ?_)
  obtain ⟨rfl, rfl⟩ := q
  refine px_PW.steps kt_32.2 11 rfl ?_
  refine px_PW.callV kt_32.2 rfl rfl rfl rfl (rw_beh _) (by decide) (fun v h1 q => ?_)
  obtain ⟨rfl, rfl⟩ := q
  refine px_PW.steps kt_32.2 3 rfl ?_
  refine px_op_11 kt_32.2 rfl ?_
  refine px_PW.steps kt_32.2 5 rfl ?_
  refine px_PW.callV kt_32.2 rfl rfl rfl rfl (rw_beh _) (by decide) (fun v h1 q => ?_)
  obtain ⟨rfl, rfl⟩ := q
  refine px_PW.steps kt_32.2 4 rfl ?_
  refine px_PW.callV kt_32.2 rfl rfl rfl rfl (rw_enb _) (by decide) (fun v h1 q => ?_)
  obtain ⟨rfl, rfl⟩ := q
  refine px_PW.steps kt_32.2 1 rfl ?_
  refine px_op_13 kt_32.2 rfl ?_
  refine px_PW.steps kt_32.2 6 rfl ?_
  refine px_PW.callV kt_32.2 rfl rfl rfl rfl (rw_hid _ _ _) (by decide) (fun v h1 q => ?_)
  obtain ⟨rfl, rfl⟩ := q
  refine px_PW.steps kt_32.2 4 rfl ?_
  refine px_PW.callV kt_32.2 rfl rfl rfl rfl (rw_hid _ _ _) (by decide) (fun v h1 q => ?_)
  obtain ⟨rfl, rfl⟩ := q
  refine px_PW.callV kt_32.2 rfl rfl rfl rfl (rw_ofE _ _) (by decide) (fun v h1 q => ?_)
  obtain ⟨rfl, rfl⟩ := q
  refine px_op_14 kt_32.2 rfl ?_
  refine px_PW.steps kt_32.2 6 rfl ?_
  refine px_PW.callV kt_32.2 rfl rfl rfl rfl (rw_gb _ _) (by decide) (fun v h1 q => ?_)
  obtain ⟨rfl, rfl⟩ := q
  refine px_PW.steps kt_32.2 3 rfl ?_
  refine px_PW.callV kt_32.2 rfl rfl rfl rfl (rw_enb _) (by decide) (fun v h1 q => ?_)
  obtain ⟨rfl, rfl⟩ := q
  refine px_PW.steps kt_32.2 1 rfl ?_
  refine px_PW.callV kt_32.2 rfl rfl rfl rfl (rw_ge _ _) (by decide) (fun v h1 q => ?_)
  obtain ⟨rfl, rfl⟩ := q
  refine px_PW.steps kt_32.2 1 rfl ?_
  refine px_op_12 kt_32.2 rfl ?_
  refine px_PW.ret kt_32.2 rfl rfl ?_
  exact ⟨rfl, rfl⟩
def s_harms (jo ga to hi kind mark : Int32) : Int32 := (if jo ≤ 0 then (if 10 ≤ ga then (if kind = 1 then 1 else (if kind = 2 then (to - 1) else (if kind = 3 then (-hi) else (if kind = 4 then (2 * 1) else (if kind = 5 then (i_max 0 ((to - 1) - 1)) else (if kind = 6 then (mark - hi) else 1)))))) else (if kind = 1 then (1 * (mark + 1)) else (if kind = 2 then (to - 1) else (if kind = 3 then (-hi) else (if kind = 4 then (2 * (1 * (mark + 1))) else (if kind = 5 then (i_max 0 ((to - 1) - 1)) else (if kind = 6 then (mark - hi) else 1))))))) else (if 10 ≤ ga then (if kind = 1 then 0 else (if kind = 2 then (to - 0) else (if kind = 3 then (-hi) else (if kind = 4 then (2 * 0) else (if kind = 5 then (i_max 0 ((to - 0) - 1)) else (if kind = 6 then (mark - hi) else 0)))))) else (if kind = 1 then (0 * (mark + 1)) else (if kind = 2 then (to - 0) else (if kind = 3 then (-hi) else (if kind = 4 then (2 * (0 * (mark + 1))) else (if kind = 5 then (i_max 0 ((to - 0) - 1)) else (if kind = 6 then (mark - hi) else 0))))))))
theorem px_swd_112_42 {x : Int32} (c0 : ¬ (x = 1)) (c1 : ¬ (x = 2)) (c2 : ¬ (x = 3)) (c3 : ¬ (x = 4)) (c4 : ¬ (x = 5)) (c5 : ¬ (x = 6)) : px_sw 1 [80, 83, 86, 92, 97, 106] 113 x.toInt = 113 := by
  have d0 : ¬ (x.toInt = 1) := fun h => c0 (px_i_of h (by decide +kernel))
  have d1 : ¬ (x.toInt = 2) := fun h => c1 (px_i_of h (by decide +kernel))
  have d2 : ¬ (x.toInt = 3) := fun h => c2 (px_i_of h (by decide +kernel))
  have d3 : ¬ (x.toInt = 4) := fun h => c3 (px_i_of h (by decide +kernel))
  have d4 : ¬ (x.toInt = 5) := fun h => c4 (px_i_of h (by decide +kernel))
  have d5 : ¬ (x.toInt = 6) := fun h => c5 (px_i_of h (by decide +kernel))
  exact px_sw_d (fun y h1 h2 => by
    have h1 : (1 : Int) ≤ y := h1
    have h2 : y < 7 := h2
    rcases (show y = 1 ∨ y = 2 ∨ y = 3 ∨ y = 4 ∨ y = 5 ∨ y = 6 by omega) with rfl | rfl | rfl | rfl | rfl | rfl
    · exact Or.inl (fun h => d0 h)
    · exact Or.inl (fun h => d1 h)
    · exact Or.inl (fun h => d2 h)
    · exact Or.inl (fun h => d3 h)
    · exact Or.inl (fun h => d4 h)
    · exact Or.inl (fun h => d5 h))
theorem cv_harms {Z N : Nat → Int32} {F : Nat → Nat → Int32} (kind mark : Int32) : px_PM 1 112 [.int kind, .int mark, .ref 54] (px_CH Z N F, []) (fun r h' => r = some (.int (s_harms (Z 11) (Z 12) (Z 13) (Z 14) kind mark)) ∧ h' = (px_CH Z N F, [])) := by
  refine px_PM.start (nL := 6) (code := pc_112) rfl rfl ?_
  refine px_PW.steps kt_112.2 3 rfl ?_
  refine px_PW.br (fun c0 => ?_) (fun c0 => ?_)
  · have c0 : (Z 11) ≤ 0 := of_decide_eq_true c0
    refine px_PW.steps kt_112.2 6 rfl ?_
    refine px_PW.br (fun c1 => ?_) (fun c1 => ?_)
    · have c1 : 10 ≤ (Z 12) := of_decide_eq_true c1
      refine px_PW.steps kt_112.2 9 rfl ?_
      by_cases c2 : kind = 1
      · refine px_PW.at (pc' := 80) (show px_sw 1 [80, 83, 86, 92, 97, 106] 113 (kind : Int32).toInt = 80 by rw [c2]; rfl) ?_
        refine px_PW.steps kt_112.2 1 rfl ?_
        refine px_PW.ret kt_112.2 rfl rfl ?_
        exact ⟨congrArg (fun z => some (Value.int z)) (show s_harms (Z 11) (Z 12) (Z 13) (Z 14) kind mark = 1 from (if_pos c0).trans ((if_pos c1).trans (if_pos c2))).symm, rfl⟩
      · skip
        by_cases c3 : kind = 2
        · refine px_PW.at (pc' := 83) (show px_sw 1 [80, 83, 86, 92, 97, 106] 113 (kind : Int32).toInt = 83 by rw [c3]; rfl) ?_
          refine px_PW.steps kt_112.2 1 rfl ?_
          refine px_PW.ret kt_112.2 rfl rfl ?_
          exact ⟨congrArg (fun z => some (Value.int z)) (show s_harms (Z 11) (Z 12) (Z 13) (Z 14) kind mark = ((Z 13) - 1) from (if_pos c0).trans ((if_pos c1).trans ((if_neg c2).trans (if_pos c3)))).symm, rfl⟩
        · skip
          by_cases c4 : kind = 3
          · refine px_PW.at (pc' := 86) (show px_sw 1 [80, 83, 86, 92, 97, 106] 113 (kind : Int32).toInt = 86 by rw [c4]; rfl) ?_
            refine px_PW.steps kt_112.2 3 rfl ?_
            refine px_PW.ret kt_112.2 rfl rfl ?_
            exact ⟨congrArg (fun z => some (Value.int z)) (show s_harms (Z 11) (Z 12) (Z 13) (Z 14) kind mark = (-(Z 14)) from (if_pos c0).trans ((if_pos c1).trans ((if_neg c2).trans ((if_neg c3).trans (if_pos c4))))).symm, rfl⟩
          · skip
            by_cases c5 : kind = 4
            · refine px_PW.at (pc' := 92) (show px_sw 1 [80, 83, 86, 92, 97, 106] 113 (kind : Int32).toInt = 92 by rw [c5]; rfl) ?_
              refine px_PW.steps kt_112.2 3 rfl ?_
              refine px_PW.ret kt_112.2 rfl rfl ?_
              exact ⟨congrArg (fun z => some (Value.int z)) (show s_harms (Z 11) (Z 12) (Z 13) (Z 14) kind mark = (2 * 1) from (if_pos c0).trans ((if_pos c1).trans ((if_neg c2).trans ((if_neg c3).trans ((if_neg c4).trans (if_pos c5)))))).symm, rfl⟩
            · skip
              by_cases c6 : kind = 5
              · refine px_PW.at (pc' := 97) (show px_sw 1 [80, 83, 86, 92, 97, 106] 113 (kind : Int32).toInt = 97 by rw [c6]; rfl) ?_
                refine px_PW.steps kt_112.2 5 rfl ?_
                refine px_PW.ret kt_112.2 rfl rfl ?_
                exact ⟨congrArg (fun z => some (Value.int z)) (show s_harms (Z 11) (Z 12) (Z 13) (Z 14) kind mark = (i_max 0 (((Z 13) - 1) - 1)) from (if_pos c0).trans ((if_pos c1).trans ((if_neg c2).trans ((if_neg c3).trans ((if_neg c4).trans ((if_neg c5).trans (if_pos c6))))))).symm, rfl⟩
              · skip
                by_cases c7 : kind = 6
                · refine px_PW.at (pc' := 106) (show px_sw 1 [80, 83, 86, 92, 97, 106] 113 (kind : Int32).toInt = 106 by rw [c7]; rfl) ?_
                  refine px_PW.steps kt_112.2 4 rfl ?_
                  refine px_PW.ret kt_112.2 rfl rfl ?_
                  exact ⟨congrArg (fun z => some (Value.int z)) (show s_harms (Z 11) (Z 12) (Z 13) (Z 14) kind mark = (mark - (Z 14)) from (if_pos c0).trans ((if_pos c1).trans ((if_neg c2).trans ((if_neg c3).trans ((if_neg c4).trans ((if_neg c5).trans ((if_neg c6).trans (if_pos c7)))))))).symm, rfl⟩
                · skip
                  refine px_PW.at (px_swd_112_42 c2 c3 c4 c5 c6 c7) ?_
                  refine px_PW.steps kt_112.2 1 rfl ?_
                  refine px_PW.ret kt_112.2 rfl rfl ?_
                  exact ⟨congrArg (fun z => some (Value.int z)) (show s_harms (Z 11) (Z 12) (Z 13) (Z 14) kind mark = 1 from (if_pos c0).trans ((if_pos c1).trans ((if_neg c2).trans ((if_neg c3).trans ((if_neg c4).trans ((if_neg c5).trans ((if_neg c6).trans (if_neg c7)))))))).symm, rfl⟩
    · have c1 : ¬ (10 ≤ (Z 12)) := of_decide_eq_false c1
      refine px_PW.steps kt_112.2 14 rfl ?_
      by_cases c8 : kind = 1
      · refine px_PW.at (pc' := 80) (show px_sw 1 [80, 83, 86, 92, 97, 106] 113 (kind : Int32).toInt = 80 by rw [c8]; rfl) ?_
        refine px_PW.steps kt_112.2 1 rfl ?_
        refine px_PW.ret kt_112.2 rfl rfl ?_
        exact ⟨congrArg (fun z => some (Value.int z)) (show s_harms (Z 11) (Z 12) (Z 13) (Z 14) kind mark = (1 * (mark + 1)) from (if_pos c0).trans ((if_neg c1).trans (if_pos c8))).symm, rfl⟩
      · skip
        by_cases c9 : kind = 2
        · refine px_PW.at (pc' := 83) (show px_sw 1 [80, 83, 86, 92, 97, 106] 113 (kind : Int32).toInt = 83 by rw [c9]; rfl) ?_
          refine px_PW.steps kt_112.2 1 rfl ?_
          refine px_PW.ret kt_112.2 rfl rfl ?_
          exact ⟨congrArg (fun z => some (Value.int z)) (show s_harms (Z 11) (Z 12) (Z 13) (Z 14) kind mark = ((Z 13) - 1) from (if_pos c0).trans ((if_neg c1).trans ((if_neg c8).trans (if_pos c9)))).symm, rfl⟩
        · skip
          by_cases c10 : kind = 3
          · refine px_PW.at (pc' := 86) (show px_sw 1 [80, 83, 86, 92, 97, 106] 113 (kind : Int32).toInt = 86 by rw [c10]; rfl) ?_
            refine px_PW.steps kt_112.2 3 rfl ?_
            refine px_PW.ret kt_112.2 rfl rfl ?_
            exact ⟨congrArg (fun z => some (Value.int z)) (show s_harms (Z 11) (Z 12) (Z 13) (Z 14) kind mark = (-(Z 14)) from (if_pos c0).trans ((if_neg c1).trans ((if_neg c8).trans ((if_neg c9).trans (if_pos c10))))).symm, rfl⟩
          · skip
            by_cases c11 : kind = 4
            · refine px_PW.at (pc' := 92) (show px_sw 1 [80, 83, 86, 92, 97, 106] 113 (kind : Int32).toInt = 92 by rw [c11]; rfl) ?_
              refine px_PW.steps kt_112.2 3 rfl ?_
              refine px_PW.ret kt_112.2 rfl rfl ?_
              exact ⟨congrArg (fun z => some (Value.int z)) (show s_harms (Z 11) (Z 12) (Z 13) (Z 14) kind mark = (2 * (1 * (mark + 1))) from (if_pos c0).trans ((if_neg c1).trans ((if_neg c8).trans ((if_neg c9).trans ((if_neg c10).trans (if_pos c11)))))).symm, rfl⟩
            · skip
              by_cases c12 : kind = 5
              · refine px_PW.at (pc' := 97) (show px_sw 1 [80, 83, 86, 92, 97, 106] 113 (kind : Int32).toInt = 97 by rw [c12]; rfl) ?_
                refine px_PW.steps kt_112.2 5 rfl ?_
                refine px_PW.ret kt_112.2 rfl rfl ?_
                exact ⟨congrArg (fun z => some (Value.int z)) (show s_harms (Z 11) (Z 12) (Z 13) (Z 14) kind mark = (i_max 0 (((Z 13) - 1) - 1)) from (if_pos c0).trans ((if_neg c1).trans ((if_neg c8).trans ((if_neg c9).trans ((if_neg c10).trans ((if_neg c11).trans (if_pos c12))))))).symm, rfl⟩
              · skip
                by_cases c13 : kind = 6
                · refine px_PW.at (pc' := 106) (show px_sw 1 [80, 83, 86, 92, 97, 106] 113 (kind : Int32).toInt = 106 by rw [c13]; rfl) ?_
                  refine px_PW.steps kt_112.2 4 rfl ?_
                  refine px_PW.ret kt_112.2 rfl rfl ?_
                  exact ⟨congrArg (fun z => some (Value.int z)) (show s_harms (Z 11) (Z 12) (Z 13) (Z 14) kind mark = (mark - (Z 14)) from (if_pos c0).trans ((if_neg c1).trans ((if_neg c8).trans ((if_neg c9).trans ((if_neg c10).trans ((if_neg c11).trans ((if_neg c12).trans (if_pos c13)))))))).symm, rfl⟩
                · skip
                  refine px_PW.at (px_swd_112_42 c8 c9 c10 c11 c12 c13) ?_
                  refine px_PW.steps kt_112.2 1 rfl ?_
                  refine px_PW.ret kt_112.2 rfl rfl ?_
                  exact ⟨congrArg (fun z => some (Value.int z)) (show s_harms (Z 11) (Z 12) (Z 13) (Z 14) kind mark = 1 from (if_pos c0).trans ((if_neg c1).trans ((if_neg c8).trans ((if_neg c9).trans ((if_neg c10).trans ((if_neg c11).trans ((if_neg c12).trans (if_neg c13)))))))).symm, rfl⟩
  · have c0 : ¬ ((Z 11) ≤ 0) := of_decide_eq_false c0
    refine px_PW.steps kt_112.2 7 rfl ?_
    refine px_PW.br (fun c14 => ?_) (fun c14 => ?_)
    · have c14 : 10 ≤ (Z 12) := of_decide_eq_true c14
      refine px_PW.steps kt_112.2 9 rfl ?_
      by_cases c15 : kind = 1
      · refine px_PW.at (pc' := 80) (show px_sw 1 [80, 83, 86, 92, 97, 106] 113 (kind : Int32).toInt = 80 by rw [c15]; rfl) ?_
        refine px_PW.steps kt_112.2 1 rfl ?_
        refine px_PW.ret kt_112.2 rfl rfl ?_
        exact ⟨congrArg (fun z => some (Value.int z)) (show s_harms (Z 11) (Z 12) (Z 13) (Z 14) kind mark = 0 from (if_neg c0).trans ((if_pos c14).trans (if_pos c15))).symm, rfl⟩
      · skip
        by_cases c16 : kind = 2
        · refine px_PW.at (pc' := 83) (show px_sw 1 [80, 83, 86, 92, 97, 106] 113 (kind : Int32).toInt = 83 by rw [c16]; rfl) ?_
          refine px_PW.steps kt_112.2 1 rfl ?_
          refine px_PW.ret kt_112.2 rfl rfl ?_
          exact ⟨congrArg (fun z => some (Value.int z)) (show s_harms (Z 11) (Z 12) (Z 13) (Z 14) kind mark = ((Z 13) - 0) from (if_neg c0).trans ((if_pos c14).trans ((if_neg c15).trans (if_pos c16)))).symm, rfl⟩
        · skip
          by_cases c17 : kind = 3
          · refine px_PW.at (pc' := 86) (show px_sw 1 [80, 83, 86, 92, 97, 106] 113 (kind : Int32).toInt = 86 by rw [c17]; rfl) ?_
            refine px_PW.steps kt_112.2 3 rfl ?_
            refine px_PW.ret kt_112.2 rfl rfl ?_
            exact ⟨congrArg (fun z => some (Value.int z)) (show s_harms (Z 11) (Z 12) (Z 13) (Z 14) kind mark = (-(Z 14)) from (if_neg c0).trans ((if_pos c14).trans ((if_neg c15).trans ((if_neg c16).trans (if_pos c17))))).symm, rfl⟩
          · skip
            by_cases c18 : kind = 4
            · refine px_PW.at (pc' := 92) (show px_sw 1 [80, 83, 86, 92, 97, 106] 113 (kind : Int32).toInt = 92 by rw [c18]; rfl) ?_
              refine px_PW.steps kt_112.2 3 rfl ?_
              refine px_PW.ret kt_112.2 rfl rfl ?_
              exact ⟨congrArg (fun z => some (Value.int z)) (show s_harms (Z 11) (Z 12) (Z 13) (Z 14) kind mark = (2 * 0) from (if_neg c0).trans ((if_pos c14).trans ((if_neg c15).trans ((if_neg c16).trans ((if_neg c17).trans (if_pos c18)))))).symm, rfl⟩
            · skip
              by_cases c19 : kind = 5
              · refine px_PW.at (pc' := 97) (show px_sw 1 [80, 83, 86, 92, 97, 106] 113 (kind : Int32).toInt = 97 by rw [c19]; rfl) ?_
                refine px_PW.steps kt_112.2 5 rfl ?_
                refine px_PW.ret kt_112.2 rfl rfl ?_
                exact ⟨congrArg (fun z => some (Value.int z)) (show s_harms (Z 11) (Z 12) (Z 13) (Z 14) kind mark = (i_max 0 (((Z 13) - 0) - 1)) from (if_neg c0).trans ((if_pos c14).trans ((if_neg c15).trans ((if_neg c16).trans ((if_neg c17).trans ((if_neg c18).trans (if_pos c19))))))).symm, rfl⟩
              · skip
                by_cases c20 : kind = 6
                · refine px_PW.at (pc' := 106) (show px_sw 1 [80, 83, 86, 92, 97, 106] 113 (kind : Int32).toInt = 106 by rw [c20]; rfl) ?_
                  refine px_PW.steps kt_112.2 4 rfl ?_
                  refine px_PW.ret kt_112.2 rfl rfl ?_
                  exact ⟨congrArg (fun z => some (Value.int z)) (show s_harms (Z 11) (Z 12) (Z 13) (Z 14) kind mark = (mark - (Z 14)) from (if_neg c0).trans ((if_pos c14).trans ((if_neg c15).trans ((if_neg c16).trans ((if_neg c17).trans ((if_neg c18).trans ((if_neg c19).trans (if_pos c20)))))))).symm, rfl⟩
                · skip
                  refine px_PW.at (px_swd_112_42 c15 c16 c17 c18 c19 c20) ?_
                  refine px_PW.steps kt_112.2 1 rfl ?_
                  refine px_PW.ret kt_112.2 rfl rfl ?_
                  exact ⟨congrArg (fun z => some (Value.int z)) (show s_harms (Z 11) (Z 12) (Z 13) (Z 14) kind mark = 0 from (if_neg c0).trans ((if_pos c14).trans ((if_neg c15).trans ((if_neg c16).trans ((if_neg c17).trans ((if_neg c18).trans ((if_neg c19).trans (if_neg c20)))))))).symm, rfl⟩
    · have c14 : ¬ (10 ≤ (Z 12)) := of_decide_eq_false c14
      refine px_PW.steps kt_112.2 14 rfl ?_
      by_cases c21 : kind = 1
      · refine px_PW.at (pc' := 80) (show px_sw 1 [80, 83, 86, 92, 97, 106] 113 (kind : Int32).toInt = 80 by rw [c21]; rfl) ?_
        refine px_PW.steps kt_112.2 1 rfl ?_
        refine px_PW.ret kt_112.2 rfl rfl ?_
        exact ⟨congrArg (fun z => some (Value.int z)) (show s_harms (Z 11) (Z 12) (Z 13) (Z 14) kind mark = (0 * (mark + 1)) from (if_neg c0).trans ((if_neg c14).trans (if_pos c21))).symm, rfl⟩
      · skip
        by_cases c22 : kind = 2
        · refine px_PW.at (pc' := 83) (show px_sw 1 [80, 83, 86, 92, 97, 106] 113 (kind : Int32).toInt = 83 by rw [c22]; rfl) ?_
          refine px_PW.steps kt_112.2 1 rfl ?_
          refine px_PW.ret kt_112.2 rfl rfl ?_
          exact ⟨congrArg (fun z => some (Value.int z)) (show s_harms (Z 11) (Z 12) (Z 13) (Z 14) kind mark = ((Z 13) - 0) from (if_neg c0).trans ((if_neg c14).trans ((if_neg c21).trans (if_pos c22)))).symm, rfl⟩
        · skip
          by_cases c23 : kind = 3
          · refine px_PW.at (pc' := 86) (show px_sw 1 [80, 83, 86, 92, 97, 106] 113 (kind : Int32).toInt = 86 by rw [c23]; rfl) ?_
            refine px_PW.steps kt_112.2 3 rfl ?_
            refine px_PW.ret kt_112.2 rfl rfl ?_
            exact ⟨congrArg (fun z => some (Value.int z)) (show s_harms (Z 11) (Z 12) (Z 13) (Z 14) kind mark = (-(Z 14)) from (if_neg c0).trans ((if_neg c14).trans ((if_neg c21).trans ((if_neg c22).trans (if_pos c23))))).symm, rfl⟩
          · skip
            by_cases c24 : kind = 4
            · refine px_PW.at (pc' := 92) (show px_sw 1 [80, 83, 86, 92, 97, 106] 113 (kind : Int32).toInt = 92 by rw [c24]; rfl) ?_
              refine px_PW.steps kt_112.2 3 rfl ?_
              refine px_PW.ret kt_112.2 rfl rfl ?_
              exact ⟨congrArg (fun z => some (Value.int z)) (show s_harms (Z 11) (Z 12) (Z 13) (Z 14) kind mark = (2 * (0 * (mark + 1))) from (if_neg c0).trans ((if_neg c14).trans ((if_neg c21).trans ((if_neg c22).trans ((if_neg c23).trans (if_pos c24)))))).symm, rfl⟩
            · skip
              by_cases c25 : kind = 5
              · refine px_PW.at (pc' := 97) (show px_sw 1 [80, 83, 86, 92, 97, 106] 113 (kind : Int32).toInt = 97 by rw [c25]; rfl) ?_
                refine px_PW.steps kt_112.2 5 rfl ?_
                refine px_PW.ret kt_112.2 rfl rfl ?_
                exact ⟨congrArg (fun z => some (Value.int z)) (show s_harms (Z 11) (Z 12) (Z 13) (Z 14) kind mark = (i_max 0 (((Z 13) - 0) - 1)) from (if_neg c0).trans ((if_neg c14).trans ((if_neg c21).trans ((if_neg c22).trans ((if_neg c23).trans ((if_neg c24).trans (if_pos c25))))))).symm, rfl⟩
              · skip
                by_cases c26 : kind = 6
                · refine px_PW.at (pc' := 106) (show px_sw 1 [80, 83, 86, 92, 97, 106] 113 (kind : Int32).toInt = 106 by rw [c26]; rfl) ?_
                  refine px_PW.steps kt_112.2 4 rfl ?_
                  refine px_PW.ret kt_112.2 rfl rfl ?_
                  exact ⟨congrArg (fun z => some (Value.int z)) (show s_harms (Z 11) (Z 12) (Z 13) (Z 14) kind mark = (mark - (Z 14)) from (if_neg c0).trans ((if_neg c14).trans ((if_neg c21).trans ((if_neg c22).trans ((if_neg c23).trans ((if_neg c24).trans ((if_neg c25).trans (if_pos c26)))))))).symm, rfl⟩
                · skip
                  refine px_PW.at (px_swd_112_42 c21 c22 c23 c24 c25 c26) ?_
                  refine px_PW.steps kt_112.2 1 rfl ?_
                  refine px_PW.ret kt_112.2 rfl rfl ?_
                  exact ⟨congrArg (fun z => some (Value.int z)) (show s_harms (Z 11) (Z 12) (Z 13) (Z 14) kind mark = 0 from (if_neg c0).trans ((if_neg c14).trans ((if_neg c21).trans ((if_neg c22).trans ((if_neg c23).trans ((if_neg c24).trans ((if_neg c25).trans (if_neg c26)))))))).symm, rfl⟩
def s_hv (Z N : Nat → Int32) (F : Nat → Nat → Int32) (t : Int32) : Int32 := (s_ruled1 N F (s_harms ((s_look Z ((F 3) t.toNatClampNeg) (((F 3) t.toNatClampNeg) + ((F 4) t.toNatClampNeg))) 11) ((s_look Z ((F 3) t.toNatClampNeg) (((F 3) t.toNatClampNeg) + ((F 4) t.toNatClampNeg))) 12) ((s_look Z ((F 3) t.toNatClampNeg) (((F 3) t.toNatClampNeg) + ((F 4) t.toNatClampNeg))) 13) ((s_look Z ((F 3) t.toNatClampNeg) (((F 3) t.toNatClampNeg) + ((F 4) t.toNatClampNeg))) 14) ((F 1) t.toNatClampNeg) ((F 2) t.toNatClampNeg)) t ((F 1) t.toNatClampNeg))
theorem cv_harmOf {Z N : Nat → Int32} {F : Nat → Nat → Int32} (hw : px_cw N) (hT : N 2 = N 1 ∧ N 3 = N 1 ∧ N 4 = N 1) {t : Int32} (ht : ¬ (t < 0 ∨ N 1 ≤ t)) : px_PM 5 111 [.ref 0, .int t] (px_CH Z N F, []) (fun r h' => r = some (.int (s_hv Z N F t)) ∧ ∃ (x : Int32) (g : Nat → Int32), (0 ≤ x ∧ x.toInt ≤ 60) ∧ h' = (px_CH (s_look Z ((F 3) t.toNatClampNeg) (((F 3) t.toNatClampNeg) + ((F 4) t.toNatClampNeg))) (upd N 25 x) (va_up F 25 g), [])) := by
  refine px_PM.start (nL := 4) (code := pc_111) rfl rfl ?_
  refine px_PW.steps kt_111.2 4 rfl ?_
  refine px_PW.callV kt_111.2 rfl rfl rfl rfl (nb_getT (q := 3) (by decide) (hw.lim (by decide)) hT.2.1 ht) (by decide) (fun v h1 q => ?_)
  obtain ⟨rfl, rfl⟩ := q
  refine px_PW.steps kt_111.2 9 rfl ?_
  refine px_PW.callV kt_111.2 rfl rfl rfl rfl (nb_getT (q := 4) (by decide) (hw.lim (by decide)) hT.2.2 ht) (by decide) (fun v h1 q => ?_)
  obtain ⟨rfl, rfl⟩ := q
  refine px_PW.steps kt_111.2 1 rfl ?_
  refine px_PW.callV kt_111.2 rfl rfl rfl rfl (cv_look _ _) (by decide) (fun v h1 q => ?_)
  obtain ⟨rfl, rfl⟩ := q
  refine px_PW.steps kt_111.2 4 rfl ?_
  refine px_PW.callV kt_111.2 rfl rfl rfl rfl (nb_getT (q := 1) (by decide) (hw.lim (by decide)) rfl ht) (by decide) (fun v h1 q => ?_)
  obtain ⟨rfl, rfl⟩ := q
  refine px_PW.steps kt_111.2 8 rfl ?_
  refine px_PW.callV kt_111.2 rfl rfl rfl rfl (nb_getT (q := 2) (by decide) (hw.lim (by decide)) hT.1 ht) (by decide) (fun v h1 q => ?_)
  obtain ⟨rfl, rfl⟩ := q
  refine px_PW.steps kt_111.2 2 rfl ?_
  refine px_PW.callS kt_111.2 rfl rfl rfl (cv_harms _ _) (by decide) (fun v h1 q => ?_)
  obtain ⟨rfl, rfl⟩ := q
  refine px_PW.steps kt_111.2 2 rfl ?_
  refine px_PW.callV kt_111.2 rfl rfl rfl rfl (cv_ruled1 hw _ _ _) (by decide) (fun v h1 q => ?_)
  obtain ⟨rfl, x9, g9, hx9, rfl⟩ := q
  refine px_PW.ret kt_111.2 rfl rfl ?_
  exact ⟨rfl, x9, g9, hx9, rfl⟩
def s_jo (Z : Nat → Int32) (f t : Int32) : Int32 := i_min (Z 10 - 1) (w_beh Z (t + Z 9 + 1)) - i_min (Z 10 - 1) (w_beh Z f)
def s_to (Z : Nat → Int32) (f t : Int32) : Int32 := 1 + i_min (Z 10 - 1) (w_beh Z t) - w_enb Z f
def s_hi (Z : Nat → Int32) (f t : Int32) : Int32 := w_ofE Z (w_hid Z 0 f t) (w_hid Z (Z 10 - 1) f t)
def s_ga (Z : Nat → Int32) (f t : Int32) : Int32 := i_min (w_gb Z (1 + i_min (Z 10 - 1) (w_beh Z f)) f) (w_ge Z (w_enb Z t) t)
theorem s_hv_eq (Z N : Nat → Int32) (F : Nat → Nat → Int32) (t : Int32) : s_hv Z N F t = s_ruled1 N F (s_harms (s_jo Z (F 3 t.toNatClampNeg) (F 3 t.toNatClampNeg + F 4 t.toNatClampNeg)) (s_ga Z (F 3 t.toNatClampNeg) (F 3 t.toNatClampNeg + F 4 t.toNatClampNeg)) (s_to Z (F 3 t.toNatClampNeg) (F 3 t.toNatClampNeg + F 4 t.toNatClampNeg)) (s_hi Z (F 3 t.toNatClampNeg) (F 3 t.toNatClampNeg + F 4 t.toNatClampNeg)) (F 1 t.toNatClampNeg) (F 2 t.toNatClampNeg)) t (F 1 t.toNatClampNeg) := rfl
theorem s_look_same (Z : Nat → Int32) (f t : Int32) : px_same Z (s_look Z f t) := by
  intro i hi
  unfold s_look upd
  rw [if_neg (by omega), if_neg (by omega), if_neg (by omega), if_neg (by omega)]
theorem s_look_lay (Z : Nat → Int32) (f t : Int32) (i : Nat) (hi : 6 ≤ i) (hi2 : i ≤ 10) : s_look Z f t i = Z i := by
  unfold s_look upd
  rw [if_neg (by omega), if_neg (by omega), if_neg (by omega), if_neg (by omega)]
theorem s_hv_congr {Z Z' N : Nat → Int32} {F : Nat → Nat → Int32} (h : ∀ i : Nat, 6 ≤ i → i ≤ 10 → Z i = Z' i) (t : Int32) : s_hv Z N F t = s_hv Z' N F t := by
  have h6 := h 6 (by decide) (by decide)
  have h7 := h 7 (by decide) (by decide)
  have h8 := h 8 (by decide) (by decide)
  have h9 := h 9 (by decide) (by decide)
  have h10 := h 10 (by decide) (by decide)
  have beg : ∀ i, w_beg Z i = w_beg Z' i := fun i => by unfold w_beg; rw [h6, h8, h9]
  have en : ∀ i, w_end Z i = w_end Z' i := fun i => by unfold w_end; rw [h6, h7, h8, h9]
  have wid : ∀ i, w_wid Z i = w_wid Z' i := fun i => by unfold w_wid; rw [beg, en]
  have cut : ∀ i, w_cut Z i = w_cut Z' i := fun i => by unfold w_cut; rw [h8]
  have beh : ∀ i, w_beh Z i = w_beh Z' i := fun i => by unfold w_beh; rw [h6, h8, h9]
  have enb : ∀ i, w_enb Z i = w_enb Z' i := fun i => by unfold w_enb; rw [h6, h7, h8, h9, h10]
  have ofE : ∀ a b, w_ofE Z a b = w_ofE Z' a b := fun a b => by unfold w_ofE; rw [h10]
  have hid : ∀ i f t, w_hid Z i f t = w_hid Z' i f t := fun i f t => by unfold w_hid; rw [wid, cut, beg, en]
  have gb : ∀ n x, w_gb Z n x = w_gb Z' n x := fun n x => by unfold w_gb; rw [h10, beg, beg]
  have ge : ∀ n x, w_ge Z n x = w_ge Z' n x := fun n x => by unfold w_ge; rw [h10, en, en]
  have jo : ∀ f t, s_jo Z f t = s_jo Z' f t := fun f t => by unfold s_jo; rw [h10, h9, beh, beh]
  have to_ : ∀ f t, s_to Z f t = s_to Z' f t := fun f t => by unfold s_to; rw [h10, beh, enb]
  have hi_ : ∀ f t, s_hi Z f t = s_hi Z' f t := fun f t => by unfold s_hi; rw [h10, hid, hid, ofE]
  have ga : ∀ f t, s_ga Z f t = s_ga Z' f t := fun f t => by unfold s_ga; rw [h10, beh, enb, gb, ge]
  rw [s_hv_eq, s_hv_eq, jo, to_, hi_, ga]
def s_seen (Z N : Nat → Int32) (F : Nat → Nat → Int32) (thing : Int32) (row : Int32) (what : Int32) : Int32 := (if thing < 0 ∨ (N 1) ≤ thing then (-1000000000 - 1) else (if row < 0 ∨ ((F 0) 4) ≤ row then (-1000000000 - 1) else (if what = 0 then ((s_look (c_lay Z F row ((F 0) 6)) (F 3 thing.toNatClampNeg) (F 3 thing.toNatClampNeg + F 4 thing.toNatClampNeg)) 11) else (if what = 1 then ((s_look (c_lay Z F row ((F 0) 6)) (F 3 thing.toNatClampNeg) (F 3 thing.toNatClampNeg + F 4 thing.toNatClampNeg)) 12) else (if what = 2 then ((s_look (c_lay Z F row ((F 0) 6)) (F 3 thing.toNatClampNeg) (F 3 thing.toNatClampNeg + F 4 thing.toNatClampNeg)) 13) else (if what = 3 then ((s_look (c_lay Z F row ((F 0) 6)) (F 3 thing.toNatClampNeg) (F 3 thing.toNatClampNeg + F 4 thing.toNatClampNeg)) 14) else (if what = 4 then (s_hv (c_lay Z F row ((F 0) 6)) N F thing) else (-1000000000 - 1))))))))
theorem px_swd_63_41 {x : Int32} (c0 : ¬ (x = 0)) (c1 : ¬ (x = 1)) (c2 : ¬ (x = 2)) (c3 : ¬ (x = 3)) (c4 : ¬ (x = 4)) : px_sw 0 [76, 84, 92, 100, 108] 111 x.toInt = 111 := by
  have d0 : ¬ (x.toInt = 0) := fun h => c0 (px_i_of h (by decide +kernel))
  have d1 : ¬ (x.toInt = 1) := fun h => c1 (px_i_of h (by decide +kernel))
  have d2 : ¬ (x.toInt = 2) := fun h => c2 (px_i_of h (by decide +kernel))
  have d3 : ¬ (x.toInt = 3) := fun h => c3 (px_i_of h (by decide +kernel))
  have d4 : ¬ (x.toInt = 4) := fun h => c4 (px_i_of h (by decide +kernel))
  exact px_sw_d (fun y h1 h2 => by
    have h1 : (0 : Int) ≤ y := h1
    have h2 : y < 5 := h2
    rcases (show y = 0 ∨ y = 1 ∨ y = 2 ∨ y = 3 ∨ y = 4 by omega) with rfl | rfl | rfl | rfl | rfl
    · exact Or.inl (fun h => d0 h)
    · exact Or.inl (fun h => d1 h)
    · exact Or.inl (fun h => d2 h)
    · exact Or.inl (fun h => d3 h)
    · exact Or.inl (fun h => d4 h))
theorem kc_seen {Z N : Nat → Int32} {F : Nat → Nat → Int32} (hw : px_cw N) (hT : N 2 = N 1 ∧ N 3 = N 1 ∧ N 4 = N 1) (thing : Int32) (row : Int32) (what : Int32) : px_PM 6 63 [.ref 0, .int thing, .int row, .int what] (px_CH Z N F, []) (fun r h' => r = some (.int (s_seen Z N F thing row what)) ∧ ∃ Z' N' F', px_sc Z N F Z' N' F' ∧ h' = (px_CH Z' N' F', [])) := by
  refine px_PM.start (nL := 5) (code := pc_63) rfl rfl ?_
  refine px_PW.steps kt_63.2 2 rfl ?_
  refine px_PW.callV kt_63.2 rfl rfl rfl rfl (cc_isThing _) (by decide) (fun v h1 q => ?_)
  obtain ⟨rfl, rfl⟩ := q
  refine px_PW.steps kt_63.2 1 rfl ?_
  refine px_PW.br (fun c0 => ?_) (fun c0 => ?_)
  · have c0 : thing < 0 ∨ (N 1) ≤ thing := px_b0z (of_decide_eq_true c0)
    refine px_PW.steps kt_63.2 2 rfl ?_
    refine px_PW.callV kt_63.2 rfl rfl rfl rfl (cc_error (N := N) hw.2.2.1 1 (by decide)) (by decide) (fun v h1 q => ?_)
    obtain ⟨rfl, rfl⟩ := q
    refine px_PW.ret kt_63.2 rfl rfl ?_
    have E : s_seen Z N F thing row what = (-1000000000 - 1) := if_pos c0
    rw [E]
    exact ⟨rfl, _, _, _, px_sc.err, rfl⟩
  · have c0 : ¬ (thing < 0 ∨ (N 1) ≤ thing) := px_b0n (of_decide_eq_false c0)
    refine px_PW.steps kt_63.2 2 rfl ?_
    refine px_PW.callV kt_63.2 rfl rfl rfl rfl (cc_isRow hw.1 _) (by decide) (fun v h1 q => ?_)
    obtain ⟨rfl, rfl⟩ := q
    refine px_PW.steps kt_63.2 1 rfl ?_
    refine px_PW.br (fun c1 => ?_) (fun c1 => ?_)
    · have c1 : ¬ (row < 0 ∨ ((F 0) 4) ≤ row) := px_b0n (of_decide_eq_false (px_nt c1))
      refine px_PW.steps kt_63.2 4 rfl ?_
      refine px_PW.callV kt_63.2 rfl rfl rfl rfl (cc_is (N := N) hw.1 6 (by decide)) (by decide) (fun v h1 q => ?_)
      obtain ⟨rfl, rfl⟩ := q
      refine px_PW.callV kt_63.2 rfl rfl rfl rfl (rr_lay (N := N) hw.1 _ _) (by decide) (fun v h1 q => ?_)
      obtain ⟨rfl, rfl⟩ := q
      refine px_PW.steps kt_63.2 2 rfl ?_
      refine px_PW.callV kt_63.2 rfl rfl rfl rfl (cv_harmOf hw hT c0) (by decide) (fun v h1 q => ?_)
      obtain ⟨rfl, x9, g9, hx9, rfl⟩ := q
      refine px_PW.steps kt_63.2 3 rfl ?_
      by_cases c2 : what = 0
      · refine px_PW.at (pc' := 76) (show px_sw 0 [76, 84, 92, 100, 108] 111 (what : Int32).toInt = 76 by rw [c2]; rfl) ?_
        refine px_PW.steps kt_63.2 3 rfl ?_
        refine px_PW.ret kt_63.2 rfl rfl ?_
        have E : s_seen Z N F thing row what = ((s_look (c_lay Z F row ((F 0) 6)) (F 3 thing.toNatClampNeg) (F 3 thing.toNatClampNeg + F 4 thing.toNatClampNeg)) 11) := (if_neg c0).trans ((if_neg c1).trans (if_pos c2))
        rw [E]
        exact ⟨rfl, _, _, _, ((px_sc.z (c_lay_same _ _ _ _)).tr (px_sc.z (s_look_same _ _ _))).tr (px_sc25 hx9), rfl⟩
      · skip
        by_cases c3 : what = 1
        · refine px_PW.at (pc' := 84) (show px_sw 0 [76, 84, 92, 100, 108] 111 (what : Int32).toInt = 84 by rw [c3]; rfl) ?_
          refine px_PW.steps kt_63.2 3 rfl ?_
          refine px_PW.ret kt_63.2 rfl rfl ?_
          have E : s_seen Z N F thing row what = ((s_look (c_lay Z F row ((F 0) 6)) (F 3 thing.toNatClampNeg) (F 3 thing.toNatClampNeg + F 4 thing.toNatClampNeg)) 12) := (if_neg c0).trans ((if_neg c1).trans ((if_neg c2).trans (if_pos c3)))
          rw [E]
          exact ⟨rfl, _, _, _, ((px_sc.z (c_lay_same _ _ _ _)).tr (px_sc.z (s_look_same _ _ _))).tr (px_sc25 hx9), rfl⟩
        · skip
          by_cases c4 : what = 2
          · refine px_PW.at (pc' := 92) (show px_sw 0 [76, 84, 92, 100, 108] 111 (what : Int32).toInt = 92 by rw [c4]; rfl) ?_
            refine px_PW.steps kt_63.2 3 rfl ?_
            refine px_PW.ret kt_63.2 rfl rfl ?_
            have E : s_seen Z N F thing row what = ((s_look (c_lay Z F row ((F 0) 6)) (F 3 thing.toNatClampNeg) (F 3 thing.toNatClampNeg + F 4 thing.toNatClampNeg)) 13) := (if_neg c0).trans ((if_neg c1).trans ((if_neg c2).trans ((if_neg c3).trans (if_pos c4))))
            rw [E]
            exact ⟨rfl, _, _, _, ((px_sc.z (c_lay_same _ _ _ _)).tr (px_sc.z (s_look_same _ _ _))).tr (px_sc25 hx9), rfl⟩
          · skip
            by_cases c5 : what = 3
            · refine px_PW.at (pc' := 100) (show px_sw 0 [76, 84, 92, 100, 108] 111 (what : Int32).toInt = 100 by rw [c5]; rfl) ?_
              refine px_PW.steps kt_63.2 3 rfl ?_
              refine px_PW.ret kt_63.2 rfl rfl ?_
              have E : s_seen Z N F thing row what = ((s_look (c_lay Z F row ((F 0) 6)) (F 3 thing.toNatClampNeg) (F 3 thing.toNatClampNeg + F 4 thing.toNatClampNeg)) 14) := (if_neg c0).trans ((if_neg c1).trans ((if_neg c2).trans ((if_neg c3).trans ((if_neg c4).trans (if_pos c5)))))
              rw [E]
              exact ⟨rfl, _, _, _, ((px_sc.z (c_lay_same _ _ _ _)).tr (px_sc.z (s_look_same _ _ _))).tr (px_sc25 hx9), rfl⟩
            · skip
              by_cases c6 : what = 4
              · refine px_PW.at (pc' := 108) (show px_sw 0 [76, 84, 92, 100, 108] 111 (what : Int32).toInt = 108 by rw [c6]; rfl) ?_
                refine px_PW.steps kt_63.2 1 rfl ?_
                refine px_PW.ret kt_63.2 rfl rfl ?_
                have E : s_seen Z N F thing row what = (s_hv (c_lay Z F row ((F 0) 6)) N F thing) := (if_neg c0).trans ((if_neg c1).trans ((if_neg c2).trans ((if_neg c3).trans ((if_neg c4).trans ((if_neg c5).trans (if_pos c6))))))
                rw [E]
                exact ⟨rfl, _, _, _, ((px_sc.z (c_lay_same _ _ _ _)).tr (px_sc.z (s_look_same _ _ _))).tr (px_sc25 hx9), rfl⟩
              · skip
                refine px_PW.at (px_swd_63_41 c2 c3 c4 c5 c6) ?_
                refine px_PW.steps kt_63.2 2 rfl ?_
                refine px_PW.callV kt_63.2 rfl rfl rfl rfl (cc_error (N := (upd N 25 x9)) hw.2.2.1 1 (by decide)) (by decide) (fun v h1 q => ?_)
                obtain ⟨rfl, rfl⟩ := q
                refine px_PW.ret kt_63.2 rfl rfl ?_
                have E : s_seen Z N F thing row what = (-1000000000 - 1) := (if_neg c0).trans ((if_neg c1).trans ((if_neg c2).trans ((if_neg c3).trans ((if_neg c4).trans ((if_neg c5).trans (if_neg c6))))))
                rw [E]
                exact ⟨rfl, _, _, _, (((px_sc.z (c_lay_same _ _ _ _)).tr (px_sc.z (s_look_same _ _ _))).tr (px_sc25 hx9)).tr (px_sc.err), rfl⟩
    · have c1 : row < 0 ∨ ((F 0) 4) ≤ row := px_b0z (of_decide_eq_true (px_nf c1))
      refine px_PW.steps kt_63.2 2 rfl ?_
      refine px_PW.callV kt_63.2 rfl rfl rfl rfl (cc_error (N := N) hw.2.2.1 1 (by decide)) (by decide) (fun v h1 q => ?_)
      obtain ⟨rfl, rfl⟩ := q
      refine px_PW.ret kt_63.2 rfl rfl ?_
      have E : s_seen Z N F thing row what = (-1000000000 - 1) := (if_neg c0).trans (if_pos c1)
      rw [E]
      exact ⟨rfl, _, _, _, px_sc.err, rfl⟩
def c_hv (N : Nat → Int32) (F : Nat → Nat → Int32) (k s : Int32) (t : Nat) : Int32 := s_hv (c_lay (fun _ => 0) F k s) N F (nI t)
def s_hrow (N : Nat → Int32) (F : Nat → Nat → Int32) (M : Nat) (k s a : Int32) : Int32 := c_fold (c_hv N F k s) (fun x y => x + y) M 0 a
def s_hall (N : Nat → Int32) (F : Nat → Nat → Int32) (M : Nat) (s : Int32) : Nat → Nat → Int32 → Int32
  | 0, _, a => a
  | m + 1, k, a => s_hall N F M s m (k + 1) (s_hrow N F M (nI k) s a)
theorem px_thM {N : Nat → Int32} {M t : Nat} (hM : N 1 = nI M) (hM6 : M ≤ 6) (h : t < M) : ¬ (nI t < 0 ∨ N 1 ≤ nI t) := by
  rw [hM]
  exact fun q => q.elim (nI_pos (by omega)) (nI_ge h (by omega))
theorem c_hr_loop {N : Nat → Int32} {F : Nat → Nat → Int32} (hw : px_cw N) (hT : N 2 = N 1 ∧ N 3 = N 1 ∧ N 4 = N 1) {M : Nat} (hM : N 1 = nI M) (hM6 : M ≤ 6) {s : Int32} {k : Nat} {Q : Option Value → px_H → Prop} : ∀ (m t : Nat) (a : Int32) (Z : Nat → Int32) (x : Int32) (g : Nat → Int32), t + m = M → (0 ≤ x ∧ x.toInt ≤ 60) → (∀ i : Nat, 6 ≤ i → i ≤ 10 → Z i = c_lay (fun _ => 0) F (nI k) s i) → (∀ (Z' : Nat → Int32) (x : Int32) (g : Nat → Int32), px_same Z Z' → (0 ≤ x ∧ x.toInt ≤ 60) → px_PW 5 pc_110 Q 52 [some (.ref 0), some (.int s), some (.int (c_fold (c_hv N F (nI k) s) (fun x y => x + y) m t a)), some (.int (nI k)), some (.int (nI M))] [] (px_CH Z' (upd N 25 x) (va_up F 25 g), [])) → px_PW 5 pc_110 Q 22 [some (.ref 0), some (.int s), some (.int a), some (.int (nI k)), some (.int (nI t))] [] (px_CH Z (upd N 25 x) (va_up F 25 g), [])
  | m, t, a, Z, x, g, ht, hx, hZ, H => by
    refine px_PW.steps kt_110.2 4 rfl ?_
    refine px_PW.callV kt_110.2 rfl rfl rfl rfl (nb_size (q := 1) (by decide)) (by decide) (fun v h1 q => ?_)
    obtain ⟨rfl, rfl⟩ := q
    rw [show (upd N 25 x) 1 = nI M from hM]
    refine px_PW.steps kt_110.2 1 rfl ?_
    refine px_PW.br (fun c0 => ?_) (fun c0 => ?_)
    · have c0 : (nI M) ≤ (nI t) := of_decide_eq_true c0
      have c0 : M ≤ t := (nI_leI (a := M) (b := t) (by omega) (by omega)).mp c0
      obtain rfl : m = 0 := by omega
      obtain rfl : t = M := by omega
      exact H Z x g px_same.rf hx
    · have c0 : ¬ ((nI M) ≤ (nI t)) := of_decide_eq_false c0
      have c0 : ¬ (M ≤ t) := fun q => c0 ((nI_leI (a := M) (b := t) (by omega) (by omega)).mpr q)
      obtain ⟨m2, rfl⟩ : ∃ m2, m = m2 + 1 := ⟨m - 1, by omega⟩
      refine px_PW.steps kt_110.2 3 rfl ?_
      refine px_PW.callV kt_110.2 rfl rfl rfl rfl (cv_harmOf (N := upd N 25 x) (F := va_up F 25 g) (px_cw25 hw hx) hT (px_thM hM hM6 (show t < M by omega))) (by decide) (fun v h1 q => ?_)
      obtain ⟨rfl, x9, g9, hx9, rfl⟩ := q
      rw [show s_hv Z (upd N 25 x) (va_up F 25 g) (nI t) = c_hv N F (nI k) s t from s_hv_congr hZ _]
      refine px_PW.steps kt_110.2 4 rfl ?_
      have g2 := c_hr_loop hw hT hM hM6 (s := s) (k := k) (Q := Q) m2 (t + 1) (a + c_hv N F (nI k) s t) _ x9 g9 (by omega) hx9 (fun i h1 h2 => (s_look_lay Z (F 3 (nI t).toNatClampNeg) (F 3 (nI t).toNatClampNeg + F 4 (nI t).toNatClampNeg) i h1 h2).trans (hZ i h1 h2)) (fun Z8 x8 g8 h8 => H Z8 x8 g8 ((s_look_same Z _ _).tr h8))
      rw [nI_succ t] at g2
      have e3 : upd (upd N 25 x) 25 x9 = upd N 25 x9 := zz_uu N 25 x x9
      have e4 : va_up (va_up F 25 g) 25 g9 = va_up F 25 g9 := px_up_up F 25 g g9
      rw [e3, e4]
      exact g2
theorem c_ha_loop {N : Nat → Int32} {F : Nat → Nat → Int32} (hw : px_cw N) (hT : N 2 = N 1 ∧ N 3 = N 1 ∧ N 4 = N 1) {M : Nat} (hM : N 1 = nI M) (hM6 : M ≤ 6) {R : Nat} (hR : F 0 4 = nI R) (hR8 : R ≤ 8) {s : Int32} {Q : Option Value → px_H → Prop} : ∀ (m k : Nat) (a : Int32) (Z : Nat → Int32) (x : Int32) (g : Nat → Int32) (o4 : Option Value), k + m = R → (0 ≤ x ∧ x.toInt ≤ 60) → (∀ (Z' : Nat → Int32) (x : Int32) (g : Nat → Int32) (o4 : Option Value), px_same Z Z' → (0 ≤ x ∧ x.toInt ≤ 60) → px_PW 5 pc_110 Q 58 [some (.ref 0), some (.int s), some (.int (s_hall N F M s m k a)), some (.int (nI R)), o4] [] (px_CH Z' (upd N 25 x) (va_up F 25 g), [])) → px_PW 5 pc_110 Q 4 [some (.ref 0), some (.int s), some (.int a), some (.int (nI k)), o4] [] (px_CH Z (upd N 25 x) (va_up F 25 g), [])
  | m, k, a, Z, x, g, o4, hk, hx, H => by
    refine px_PW.steps kt_110.2 3 rfl ?_
    refine px_PW.callV kt_110.2 rfl rfl rfl rfl (cc_is (N := upd N 25 x) (F := va_up F 25 g) hw.1 4 (by decide)) (by decide) (fun v h1 q => ?_)
    obtain ⟨rfl, rfl⟩ := q
    rw [show (va_up F 25 g) 0 4 = nI R from hR]
    refine px_PW.steps kt_110.2 1 rfl ?_
    refine px_PW.br (fun c0 => ?_) (fun c0 => ?_)
    · have c0 : (nI R) ≤ (nI k) := of_decide_eq_true c0
      have c0 : R ≤ k := (nI_leI (a := R) (b := k) (by omega) (by omega)).mp c0
      obtain rfl : m = 0 := by omega
      obtain rfl : k = R := by omega
      exact H Z x g _ px_same.rf hx
    · have c0 : ¬ ((nI R) ≤ (nI k)) := of_decide_eq_false c0
      have c0 : ¬ (R ≤ k) := fun q => c0 ((nI_leI (a := R) (b := k) (by omega) (by omega)).mpr q)
      obtain ⟨m2, rfl⟩ : ∃ m2, m = m2 + 1 := ⟨m - 1, by omega⟩
      refine px_PW.steps kt_110.2 3 rfl ?_
      refine px_PW.callV kt_110.2 rfl rfl rfl rfl (rr_lay (N := upd N 25 x) (F := va_up F 25 g) hw.1 _ _) (by decide) (fun v h1 q => ?_)
      obtain ⟨rfl, rfl⟩ := q
      refine px_PW.steps kt_110.2 2 rfl ?_
      refine c_hr_loop hw hT hM hM6 (s := s) (k := k) M 0 a (c_lay Z F (nI k) s) x g (by omega) hx (fun i h1 h2 => ?_) (fun Z8 x8 g8 h8 hx8 => ?_)
      · rcases (show i = 6 ∨ i = 7 ∨ i = 8 ∨ i = 9 ∨ i = 10 by omega) with rfl | rfl | rfl | rfl | rfl <;> rfl
      · refine px_PW.steps kt_110.2 2 rfl ?_
        have g2 := c_ha_loop hw hT hM hM6 hR hR8 (s := s) (Q := Q) m2 (k + 1) (s_hrow N F M (nI k) s a) Z8 x8 g8 (some (.int (nI M))) (by omega) hx8 (fun Z7 x7 g7 o7 h7 => H Z7 x7 g7 o7 (((c_lay_same Z F _ _).tr h8).tr h7))
        rw [nI_succ k] at g2
        exact g2
theorem cv_harmBy {Z N : Nat → Int32} {F : Nat → Nat → Int32} (hw : px_cw N) (hT : N 2 = N 1 ∧ N 3 = N 1 ∧ N 4 = N 1) {M : Nat} (hM : N 1 = nI M) (hM6 : M ≤ 6) {R : Nat} (hR : F 0 4 = nI R) (hR8 : R ≤ 8) (s : Int32) : px_PM 6 110 [.ref 0, .int s] (px_CH Z N F, []) (fun r h' => r = some (.int (s_hall N F M s R 0 0)) ∧ ∃ (Z' : Nat → Int32) (x : Int32) (g : Nat → Int32), px_same Z Z' ∧ (0 ≤ x ∧ x.toInt ≤ 60) ∧ h' = (px_CH Z' (upd N 25 x) (va_up F 25 g), [])) := by
  refine px_PM.start (nL := 5) (code := pc_110) rfl rfl ?_
  refine px_PW.steps kt_110.2 4 rfl ?_
  refine px_PW.hp (h' := (px_CH Z (upd N 25 (N 25)) (va_up F 25 (F 25)), [])) (by rw [zz_ui, px_up_id]) ?_
  refine c_ha_loop hw hT hM hM6 hR hR8 (s := s) R 0 0 Z (N 25) (F 25) none (by omega) ⟨hw.nn (q := 25) (by decide), hw.lim (q := 25) (by decide)⟩ (fun Z7 x7 g7 o7 h7 hx7 => ?_)
  refine px_PW.steps kt_110.2 1 rfl ?_
  exact px_PW.ret kt_110.2 rfl rfl ⟨rfl, Z7, x7, g7, h7, hx7, rfl⟩
theorem s_hall_25 (N : Nat → Int32) (F : Nat → Nat → Int32) (x : Int32) (g : Nat → Int32) (M : Nat) (s : Int32) : ∀ (m k : Nat) (a : Int32), s_hall (upd N 25 x) (va_up F 25 g) M s m k a = s_hall N F M s m k a
  | 0, _, _ => rfl
  | m + 1, k, a => s_hall_25 N F x g M s m (k + 1) _
/-- m more STARTS from k on: where HARM is least, and how much -/
def s_calm (h : Nat → Int32) : Nat → Nat → Nat × Int32 → Nat × Int32
  | 0, _, a => a
  | m + 1, k, a => s_calm h m (k + 1) (if h k < a.2 then (k, h k) else a)
theorem c_calm_loop {N : Nat → Int32} {F : Nat → Nat → Int32} (hw : px_cw N) (hT : N 2 = N 1 ∧ N 3 = N 1 ∧ N 4 = N 1) {M : Nat} (hM : N 1 = nI M) (hM6 : M ≤ 6) {R : Nat} (hR : F 0 4 = nI R) (hR8 : R ≤ 8) {T : Nat} (hTi : F 0 1 = nI T) (hT200 : T ≤ 200) {what : Int32} {Q : Option Value → px_H → Prop} : ∀ (m k : Nat) (a : Nat × Int32) (Z : Nat → Int32) (x : Int32) (g : Nat → Int32) (o5 : Option Value), k + m = T + 1 → (0 ≤ x ∧ x.toInt ≤ 60) → (∀ (Z' : Nat → Int32) (x : Int32) (g : Nat → Int32) (o4 : Nat) (o5 : Option Value), px_same Z Z' → (0 ≤ x ∧ x.toInt ≤ 60) → px_PW 6 pc_68 Q 62 [some (.ref 0), some (.int what), some (.int (nI (s_calm (fun s => s_hall N F M (nI s) R 0 0) m k a).1)), some (.int (s_calm (fun s => s_hall N F M (nI s) R 0 0) m k a).2), some (.int (nI o4)), o5] [] (px_CH Z' (upd N 25 x) (va_up F 25 g), [])) → px_PW 6 pc_68 Q 26 [some (.ref 0), some (.int what), some (.int (nI a.1)), some (.int a.2), some (.int (nI k)), o5] [] (px_CH Z (upd N 25 x) (va_up F 25 g), [])
  | m, k, a, Z, x, g, o5, hk, hx, H => by
    refine px_PW.steps kt_68.2 3 rfl ?_
    refine px_PW.callV kt_68.2 rfl rfl rfl rfl (cc_is (N := upd N 25 x) (F := va_up F 25 g) hw.1 1 (by decide)) (by decide) (fun v h1 q => ?_)
    obtain ⟨rfl, rfl⟩ := q
    rw [show (va_up F 25 g) 0 1 = nI T from hTi]
    refine px_PW.steps kt_68.2 1 rfl ?_
    refine px_PW.br (fun c0 => ?_) (fun c0 => ?_)
    · have c0 : (nI T) < (nI k) := of_decide_eq_true c0
      have c0 : T < k := (nI_ltI (a := T) (b := k) (by omega) (by omega)).mp c0
      obtain rfl : m = 0 := by omega
      exact H Z x g k _ px_same.rf hx
    · have c0 : ¬ ((nI T) < (nI k)) := of_decide_eq_false c0
      have c0 : ¬ (T < k) := fun q => c0 ((nI_ltI (a := T) (b := k) (by omega) (by omega)).mpr q)
      obtain ⟨m2, rfl⟩ : ∃ m2, m = m2 + 1 := ⟨m - 1, by omega⟩
      refine px_PW.steps kt_68.2 2 rfl ?_
      refine px_PW.callV kt_68.2 rfl rfl rfl rfl (cv_harmBy (N := (upd N 25 x)) (F := (va_up F 25 g)) (px_cw25 hw hx) hT hM hM6 hR hR8 _) (by decide) (fun v h1 q => ?_)
      obtain ⟨rfl, Z300, x300, g300, hz300, hx300, rfl⟩ := q
      rw [show s_hall (upd N 25 x) (va_up F 25 g) M (nI k) R 0 0 = s_hall N F M (nI k) R 0 0 from s_hall_25 ..]
      refine px_PW.steps kt_68.2 4 rfl ?_
      refine px_PW.br (fun c1 => ?_) (fun c1 => ?_)
      · have c1 : a.2 ≤ (s_hall N F M (nI k) R 0 0) := of_decide_eq_true c1
        refine px_PW.steps kt_68.2 2 rfl ?_
        have e0 : s_calm (fun s => s_hall N F M (nI s) R 0 0) (m2 + 1) k a = s_calm (fun s => s_hall N F M (nI s) R 0 0) m2 (k + 1) a := congrArg (s_calm (fun s => s_hall N F M (nI s) R 0 0) m2 (k + 1)) (if_neg (Int32.not_lt.mpr c1))
        have g2 := c_calm_loop hw hT hM hM6 hR hR8 hTi hT200 (what := what) (Q := Q) m2 (k + 1) a Z300 x300 g300 (some (.int (s_hall N F M (nI k) R 0 0))) (by omega) hx300 (fun Z8 x8 g8 o4 o5 h8 hx8 => by have h := H Z8 x8 g8 o4 o5 (hz300.tr h8) hx8; rw [e0] at h; exact h)
        rw [nI_succ k] at g2
        rw [zz_uu, px_up_up]
        exact g2
      · have c1 : ¬ (a.2 ≤ (s_hall N F M (nI k) R 0 0)) := of_decide_eq_false c1
        refine px_PW.steps kt_68.2 6 rfl ?_
        have e0 : s_calm (fun s => s_hall N F M (nI s) R 0 0) (m2 + 1) k a = s_calm (fun s => s_hall N F M (nI s) R 0 0) m2 (k + 1) (k, s_hall N F M (nI k) R 0 0) := congrArg (s_calm (fun s => s_hall N F M (nI s) R 0 0) m2 (k + 1)) (if_pos (Int32.not_le.mp c1))
        have g2 := c_calm_loop hw hT hM hM6 hR hR8 hTi hT200 (what := what) (Q := Q) m2 (k + 1) (k, s_hall N F M (nI k) R 0 0) Z300 x300 g300 (some (.int (s_hall N F M (nI k) R 0 0))) (by omega) hx300 (fun Z8 x8 g8 o4 o5 h8 hx8 => by have h := H Z8 x8 g8 o4 o5 (hz300.tr h8) hx8; rw [e0] at h; exact h)
        rw [nI_succ k] at g2
        rw [zz_uu, px_up_up]
        exact g2
def s_calmv (M R T : Nat) (Z N : Nat → Int32) (F : Nat → Nat → Int32) (what : Int32) : Int32 := (if what < 0 then (-1000000000 - 1) else (if what ≤ 1 then (if what = 0 then (nI (s_calm (fun s => s_hall N F M (nI s) R 0 0) (T - 1) 2 (1, s_hall N F M 1 R 0 0)).1) else (s_calm (fun s => s_hall N F M (nI s) R 0 0) (T - 1) 2 (1, s_hall N F M 1 R 0 0)).2) else (-1000000000 - 1)))
theorem kc_calm {Z N : Nat → Int32} {F : Nat → Nat → Int32} (hw : px_cw N) (hT : N 2 = N 1 ∧ N 3 = N 1 ∧ N 4 = N 1) {M : Nat} (hM : N 1 = nI M) (hM6 : M ≤ 6) {R : Nat} (hR : F 0 4 = nI R) (hR8 : R ≤ 8) {T : Nat} (hTi : F 0 1 = nI T) (hT200 : T ≤ 200) (hT1 : 1 ≤ T) (what : Int32) : px_PM 7 68 [.ref 0, .int what] (px_CH Z N F, []) (fun r h' => r = some (.int (s_calmv M R T Z N F what)) ∧ ∃ Z' N' F', px_sc Z N F Z' N' F' ∧ h' = (px_CH Z' N' F', [])) := by
  refine px_PM.start (nL := 6) (code := pc_68) rfl rfl ?_
  refine px_PW.steps kt_68.2 2 rfl ?_
  refine px_PW.br (fun c0 => ?_) (fun c0 => ?_)
  · have c0 : what < 0 := of_decide_eq_true c0
    refine px_PW.steps kt_68.2 2 rfl ?_
    refine px_PW.callV kt_68.2 rfl rfl rfl rfl (cc_error (N := N) hw.2.2.1 1 (by decide)) (by decide) (fun v h1 q => ?_)
    obtain ⟨rfl, rfl⟩ := q
    refine px_PW.ret kt_68.2 rfl rfl ?_
    have E : s_calmv M R T Z N F what = (-1000000000 - 1) := if_pos c0
    rw [E]
    exact ⟨rfl, _, _, _, px_sc.err, rfl⟩
  · have c0 : ¬ (what < 0) := of_decide_eq_false c0
    refine px_PW.steps kt_68.2 3 rfl ?_
    refine px_PW.br (fun c1 => ?_) (fun c1 => ?_)
    · have c1 : what ≤ 1 := of_decide_eq_true c1
      refine px_PW.steps kt_68.2 4 rfl ?_
      refine px_PW.callV kt_68.2 rfl rfl rfl rfl (cv_harmBy (N := N) (F := F) hw hT hM hM6 hR hR8 _) (by decide) (fun v h1 q => ?_)
      obtain ⟨rfl, Z300, x300, g300, hz300, hx300, rfl⟩ := q
      refine px_PW.steps kt_68.2 3 rfl ?_
      refine c_calm_loop hw hT hM hM6 hR hR8 hTi hT200 (what := what) (T - 1) 2 (1, s_hall N F M 1 R 0 0) Z300 x300 g300 none (by omega) hx300 (fun Z8 x8 g8 o4 o5 h8 hx8 => ?_)
      refine px_PW.steps kt_68.2 2 rfl ?_
      refine px_PW.br (fun c2 => ?_) (fun c2 => ?_)
      · have c2 : ¬ (what = 0) := of_decide_eq_false (px_nt c2)
        refine px_PW.steps kt_68.2 1 rfl ?_
        refine px_PW.ret kt_68.2 rfl rfl ?_
        have E : s_calmv M R T Z N F what = (s_calm (fun s => s_hall N F M (nI s) R 0 0) (T - 1) 2 (1, s_hall N F M 1 R 0 0)).2 := (if_neg c0).trans ((if_pos c1).trans (if_neg c2))
        rw [E]
        exact ⟨rfl, _, _, _, (px_sc.z (hz300.tr h8)).tr (px_sc25 hx8), rfl⟩
      · have c2 : what = 0 := of_decide_eq_true (px_nf c2)
        refine px_PW.steps kt_68.2 2 rfl ?_
        refine px_PW.ret kt_68.2 rfl rfl ?_
        have E : s_calmv M R T Z N F what = (nI (s_calm (fun s => s_hall N F M (nI s) R 0 0) (T - 1) 2 (1, s_hall N F M 1 R 0 0)).1) := (if_neg c0).trans ((if_pos c1).trans (if_pos c2))
        rw [E]
        exact ⟨rfl, _, _, _, (px_sc.z (hz300.tr h8)).tr (px_sc25 hx8), rfl⟩
    · have c1 : ¬ (what ≤ 1) := of_decide_eq_false c1
      refine px_PW.steps kt_68.2 2 rfl ?_
      refine px_PW.callV kt_68.2 rfl rfl rfl rfl (cc_error (N := N) hw.2.2.1 1 (by decide)) (by decide) (fun v h1 q => ?_)
      obtain ⟨rfl, rfl⟩ := q
      refine px_PW.ret kt_68.2 rfl rfl ?_
      have E : s_calmv M R T Z N F what = (-1000000000 - 1) := (if_neg c0).trans (if_neg c1)
      rw [E]
      exact ⟨rfl, _, _, _, px_sc.err, rfl⟩
def s_tiles (R : Nat) (N : Nat → Int32) (F : Nat → Nat → Int32) : Int32 := ((((c_pcs F R) - (c_halves F R)) + (((c_halves F R) + 1) / 2)) + (s_ruled0 N F (c_cuts F R ((F 0) 6)) (((c_pcs F R) - (c_halves F R)) + (((c_halves F R) + 1) / 2)) ((F 0) 1)))
theorem cv_tiles {Z N : Nat → Int32} {F : Nat → Nat → Int32} (hw : px_cw N) {R : Nat} (hR : F 0 4 = nI R) (hR8 : R ≤ 8) : px_PM 6 109 [.ref 0] (px_CH Z N F, []) (fun r h' => r = some (.int (s_tiles R N F)) ∧ ∃ Z' N' F', px_sc Z N F Z' N' F' ∧ h' = (px_CH Z' N' F', [])) := by
  refine px_PM.start (nL := 3) (code := pc_109) rfl rfl ?_
  refine px_PW.steps kt_109.2 1 rfl ?_
  refine px_PW.callV kt_109.2 rfl rfl rfl rfl (cb_halves hw.1 hR hR8) (by decide) (fun v h1 q => ?_)
  obtain ⟨rfl, Z100, hZ100, rfl⟩ := q
  refine px_PW.steps kt_109.2 2 rfl ?_
  refine px_PW.callV kt_109.2 rfl rfl rfl rfl (cb_pcs hw.1 hR hR8) (by decide) (fun v h1 q => ?_)
  obtain ⟨rfl, Z101, hZ101, rfl⟩ := q
  refine px_PW.steps kt_109.2 15 rfl ?_
  refine px_PW.callV kt_109.2 rfl rfl rfl rfl (cc_is (N := N) hw.1 6 (by decide)) (by decide) (fun v h1 q => ?_)
  obtain ⟨rfl, rfl⟩ := q
  refine px_PW.callV kt_109.2 rfl rfl rfl rfl (cb_cuts hw.1 hR hR8 _) (by decide) (fun v h1 q => ?_)
  obtain ⟨rfl, Z102, hZ102, rfl⟩ := q
  refine px_PW.steps kt_109.2 3 rfl ?_
  refine px_PW.callV kt_109.2 rfl rfl rfl rfl (cc_is (N := N) hw.1 1 (by decide)) (by decide) (fun v h1 q => ?_)
  obtain ⟨rfl, rfl⟩ := q
  refine px_PW.callV kt_109.2 rfl rfl rfl rfl (cv_ruled0 hw _ _ _) (by decide) (fun v h1 q => ?_)
  obtain ⟨rfl, x9, g9, hx9, rfl⟩ := q
  refine px_PW.steps kt_109.2 1 rfl ?_
  refine px_PW.ret kt_109.2 rfl rfl ?_
  exact ⟨rfl, _, _, _, (((px_sc.z hZ100).tr (px_sc.z hZ101)).tr (px_sc.z hZ102)).tr (px_sc25 hx9), rfl⟩
def s_buy (M R : Nat) (Z N : Nat → Int32) (F : Nat → Nat → Int32) (what : Int32) : Int32 := (if what = 0 then (s_tiles R N F) else (if what = 1 then (i_quo (((s_tiles R N F) + 40) - 1) 40) else (if what = 2 then (c_cuts F R ((F 0) 6)) else (if what = 3 then (c_nar F R ((F 0) 6)) else (if what = 4 then (c_halves F R) else (if what = 5 then (s_hall N F M ((F 0) 6) R 0 0) else (-1000000000 - 1)))))))
theorem px_swd_64_1 {x : Int32} (c0 : ¬ (x = 0)) (c1 : ¬ (x = 1)) (c2 : ¬ (x = 2)) (c3 : ¬ (x = 3)) (c4 : ¬ (x = 4)) (c5 : ¬ (x = 5)) : px_sw 0 [40, 45, 60, 71, 82, 87] 98 x.toInt = 98 := by
  have d0 : ¬ (x.toInt = 0) := fun h => c0 (px_i_of h (by decide +kernel))
  have d1 : ¬ (x.toInt = 1) := fun h => c1 (px_i_of h (by decide +kernel))
  have d2 : ¬ (x.toInt = 2) := fun h => c2 (px_i_of h (by decide +kernel))
  have d3 : ¬ (x.toInt = 3) := fun h => c3 (px_i_of h (by decide +kernel))
  have d4 : ¬ (x.toInt = 4) := fun h => c4 (px_i_of h (by decide +kernel))
  have d5 : ¬ (x.toInt = 5) := fun h => c5 (px_i_of h (by decide +kernel))
  exact px_sw_d (fun y h1 h2 => by
    have h1 : (0 : Int) ≤ y := h1
    have h2 : y < 6 := h2
    rcases (show y = 0 ∨ y = 1 ∨ y = 2 ∨ y = 3 ∨ y = 4 ∨ y = 5 by omega) with rfl | rfl | rfl | rfl | rfl | rfl
    · exact Or.inl (fun h => d0 h)
    · exact Or.inl (fun h => d1 h)
    · exact Or.inl (fun h => d2 h)
    · exact Or.inl (fun h => d3 h)
    · exact Or.inl (fun h => d4 h)
    · exact Or.inl (fun h => d5 h))
theorem kc_buy {Z N : Nat → Int32} {F : Nat → Nat → Int32} (hw : px_cw N) (hT : N 2 = N 1 ∧ N 3 = N 1 ∧ N 4 = N 1) {M : Nat} (hM : N 1 = nI M) (hM6 : M ≤ 6) {R : Nat} (hR : F 0 4 = nI R) (hR8 : R ≤ 8) (what : Int32) : px_PM 7 64 [.ref 0, .int what] (px_CH Z N F, []) (fun r h' => r = some (.int (s_buy M R Z N F what)) ∧ ∃ Z' N' F', px_sc Z N F Z' N' F' ∧ h' = (px_CH Z' N' F', [])) := by
  refine px_PM.start (nL := 2) (code := pc_64) rfl rfl ?_
  refine px_PW.steps kt_64.2 2 rfl ?_
  by_cases c0 : what = 0
  · refine px_PW.at (pc' := 40) (show px_sw 0 [40, 45, 60, 71, 82, 87] 98 (what : Int32).toInt = 40 by rw [c0]; rfl) ?_
    refine px_PW.steps kt_64.2 1 rfl ?_
    refine px_PW.callV kt_64.2 rfl rfl rfl rfl (cv_tiles hw hR hR8) (by decide) (fun v h1 q => ?_)
    obtain ⟨rfl, Z400, N400, F400, hs400, rfl⟩ := q
    refine px_PW.ret kt_64.2 rfl rfl ?_
    have E : s_buy M R Z N F what = (s_tiles R N F) := if_pos c0
    rw [E]
    exact ⟨rfl, _, _, _, hs400, rfl⟩
  · skip
    by_cases c1 : what = 1
    · refine px_PW.at (pc' := 45) (show px_sw 0 [40, 45, 60, 71, 82, 87] 98 (what : Int32).toInt = 45 by rw [c1]; rfl) ?_
      refine px_PW.steps kt_64.2 1 rfl ?_
      refine px_PW.callV kt_64.2 rfl rfl rfl rfl (cv_tiles hw hR hR8) (by decide) (fun v h1 q => ?_)
      obtain ⟨rfl, Z400, N400, F400, hs400, rfl⟩ := q
      refine px_PW.steps kt_64.2 5 rfl ?_
      refine px_PW.callS kt_64.2 rfl rfl rfl (cc_quot _ _ _) (by decide) (fun v h1 q => ?_)
      obtain ⟨rfl, rfl⟩ := q
      refine px_PW.ret kt_64.2 rfl rfl ?_
      have E : s_buy M R Z N F what = (i_quo (((s_tiles R N F) + 40) - 1) 40) := (if_neg c0).trans (if_pos c1)
      rw [E]
      exact ⟨rfl, _, _, _, hs400, rfl⟩
    · skip
      by_cases c2 : what = 2
      · refine px_PW.at (pc' := 60) (show px_sw 0 [40, 45, 60, 71, 82, 87] 98 (what : Int32).toInt = 60 by rw [c2]; rfl) ?_
        refine px_PW.steps kt_64.2 3 rfl ?_
        refine px_PW.callV kt_64.2 rfl rfl rfl rfl (cc_is (N := N) hw.1 6 (by decide)) (by decide) (fun v h1 q => ?_)
        obtain ⟨rfl, rfl⟩ := q
        refine px_PW.callV kt_64.2 rfl rfl rfl rfl (cb_cuts hw.1 hR hR8 _) (by decide) (fun v h1 q => ?_)
        obtain ⟨rfl, Z100, hZ100, rfl⟩ := q
        refine px_PW.ret kt_64.2 rfl rfl ?_
        have E : s_buy M R Z N F what = (c_cuts F R ((F 0) 6)) := (if_neg c0).trans ((if_neg c1).trans (if_pos c2))
        rw [E]
        exact ⟨rfl, _, _, _, px_sc.z hZ100, rfl⟩
      · skip
        by_cases c3 : what = 3
        · refine px_PW.at (pc' := 71) (show px_sw 0 [40, 45, 60, 71, 82, 87] 98 (what : Int32).toInt = 71 by rw [c3]; rfl) ?_
          refine px_PW.steps kt_64.2 3 rfl ?_
          refine px_PW.callV kt_64.2 rfl rfl rfl rfl (cc_is (N := N) hw.1 6 (by decide)) (by decide) (fun v h1 q => ?_)
          obtain ⟨rfl, rfl⟩ := q
          refine px_PW.callV kt_64.2 rfl rfl rfl rfl (cb_nar hw.1 hR hR8 _) (by decide) (fun v h1 q => ?_)
          obtain ⟨rfl, Z100, hZ100, rfl⟩ := q
          refine px_PW.ret kt_64.2 rfl rfl ?_
          have E : s_buy M R Z N F what = (c_nar F R ((F 0) 6)) := (if_neg c0).trans ((if_neg c1).trans ((if_neg c2).trans (if_pos c3)))
          rw [E]
          exact ⟨rfl, _, _, _, px_sc.z hZ100, rfl⟩
        · skip
          by_cases c4 : what = 4
          · refine px_PW.at (pc' := 82) (show px_sw 0 [40, 45, 60, 71, 82, 87] 98 (what : Int32).toInt = 82 by rw [c4]; rfl) ?_
            refine px_PW.steps kt_64.2 1 rfl ?_
            refine px_PW.callV kt_64.2 rfl rfl rfl rfl (cb_halves hw.1 hR hR8) (by decide) (fun v h1 q => ?_)
            obtain ⟨rfl, Z100, hZ100, rfl⟩ := q
            refine px_PW.ret kt_64.2 rfl rfl ?_
            have E : s_buy M R Z N F what = (c_halves F R) := (if_neg c0).trans ((if_neg c1).trans ((if_neg c2).trans ((if_neg c3).trans (if_pos c4))))
            rw [E]
            exact ⟨rfl, _, _, _, px_sc.z hZ100, rfl⟩
          · skip
            by_cases c5 : what = 5
            · refine px_PW.at (pc' := 87) (show px_sw 0 [40, 45, 60, 71, 82, 87] 98 (what : Int32).toInt = 87 by rw [c5]; rfl) ?_
              refine px_PW.steps kt_64.2 3 rfl ?_
              refine px_PW.callV kt_64.2 rfl rfl rfl rfl (cc_is (N := N) hw.1 6 (by decide)) (by decide) (fun v h1 q => ?_)
              obtain ⟨rfl, rfl⟩ := q
              refine px_PW.callV kt_64.2 rfl rfl rfl rfl (cv_harmBy hw hT hM hM6 hR hR8 _) (by decide) (fun v h1 q => ?_)
              obtain ⟨rfl, Z300, x300, g300, hz300, hx300, rfl⟩ := q
              refine px_PW.ret kt_64.2 rfl rfl ?_
              have E : s_buy M R Z N F what = (s_hall N F M ((F 0) 6) R 0 0) := (if_neg c0).trans ((if_neg c1).trans ((if_neg c2).trans ((if_neg c3).trans ((if_neg c4).trans (if_pos c5)))))
              rw [E]
              exact ⟨rfl, _, _, _, (px_sc.z hz300).tr (px_sc25 hx300), rfl⟩
            · skip
              refine px_PW.at (px_swd_64_1 c0 c1 c2 c3 c4 c5) ?_
              refine px_PW.steps kt_64.2 2 rfl ?_
              refine px_PW.callV kt_64.2 rfl rfl rfl rfl (cc_error (N := N) hw.2.2.1 1 (by decide)) (by decide) (fun v h1 q => ?_)
              obtain ⟨rfl, rfl⟩ := q
              refine px_PW.ret kt_64.2 rfl rfl ?_
              have E : s_buy M R Z N F what = (-1000000000 - 1) := (if_neg c0).trans ((if_neg c1).trans ((if_neg c2).trans ((if_neg c3).trans ((if_neg c4).trans (if_neg c5)))))
              rw [E]
              exact ⟨rfl, _, _, _, px_sc.err, rfl⟩
def s_law0 (Z N : Nat → Int32) (F : Nat → Nat → Int32) (a : Int32) (b : Int32) (c : Int32) : Int32 := (s_ruled0 N F a b c)
theorem kc_law0 {Z N : Nat → Int32} {F : Nat → Nat → Int32} (hw : px_cw N) (a : Int32) (b : Int32) (c : Int32) : px_PM 5 60 [.ref 0, .int 0, .int a, .int b, .int c] (px_CH Z N F, []) (fun r h' => r = some (.int (s_law0 Z N F a b c)) ∧ ∃ Z' N' F', px_sc Z N F Z' N' F' ∧ h' = (px_CH Z' N' F', [])) := by
  refine px_PM.start (nL := 5) (code := pc_60) rfl rfl ?_
  refine px_PW.steps kt_60.2 1 rfl ?_
  refine px_PW.callS kt_60.2 rfl rfl rfl (cc_isUse _ _) (by decide) (fun v h1 q => ?_)
  obtain ⟨rfl, rfl⟩ := q
  refine px_PW.steps kt_60.2 1 rfl ?_
  refine px_PW.br (fun c0 => ?_) (fun c0 => ?_)
  · have c0 : ¬ (0 = 0 ∨ 0 = 1) := px_b1z (of_decide_eq_true c0)
    exact absurd (Or.inl rfl) c0
  · have c0 : 0 = 0 ∨ 0 = 1 := px_b1n (of_decide_eq_false c0)
    refine px_PW.steps kt_60.2 5 rfl ?_
    refine px_PW.callV kt_60.2 rfl rfl rfl rfl (cv_ruled0 hw _ _ _) (by decide) (fun v h1 q => ?_)
    obtain ⟨rfl, x9, g9, hx9, rfl⟩ := q
    refine px_PW.steps kt_60.2 1 rfl ?_
    refine px_PW.ret kt_60.2 rfl rfl ?_
    have E : s_law0 Z N F a b c = (s_ruled0 N F a b c) := rfl
    rw [E]
    exact ⟨rfl, _, _, _, px_sc25 hx9, rfl⟩
def s_law1 (Z N : Nat → Int32) (F : Nat → Nat → Int32) (a : Int32) (b : Int32) (c : Int32) : Int32 := (s_ruled1 N F a b c)
theorem kc_law1 {Z N : Nat → Int32} {F : Nat → Nat → Int32} (hw : px_cw N) (a : Int32) (b : Int32) (c : Int32) : px_PM 5 60 [.ref 0, .int 1, .int a, .int b, .int c] (px_CH Z N F, []) (fun r h' => r = some (.int (s_law1 Z N F a b c)) ∧ ∃ Z' N' F', px_sc Z N F Z' N' F' ∧ h' = (px_CH Z' N' F', [])) := by
  refine px_PM.start (nL := 5) (code := pc_60) rfl rfl ?_
  refine px_PW.steps kt_60.2 1 rfl ?_
  refine px_PW.callS kt_60.2 rfl rfl rfl (cc_isUse _ _) (by decide) (fun v h1 q => ?_)
  obtain ⟨rfl, rfl⟩ := q
  refine px_PW.steps kt_60.2 1 rfl ?_
  refine px_PW.br (fun c0 => ?_) (fun c0 => ?_)
  · have c0 : ¬ (1 = 0 ∨ 1 = 1) := px_b1z (of_decide_eq_true c0)
    exact absurd (Or.inr rfl) c0
  · have c0 : 1 = 0 ∨ 1 = 1 := px_b1n (of_decide_eq_false c0)
    refine px_PW.steps kt_60.2 5 rfl ?_
    refine px_PW.callV kt_60.2 rfl rfl rfl rfl (cv_ruled1 hw _ _ _) (by decide) (fun v h1 q => ?_)
    obtain ⟨rfl, x9, g9, hx9, rfl⟩ := q
    refine px_PW.steps kt_60.2 1 rfl ?_
    refine px_PW.ret kt_60.2 rfl rfl ?_
    have E : s_law1 Z N F a b c = (s_ruled1 N F a b c) := rfl
    rw [E]
    exact ⟨rfl, _, _, _, px_sc25 hx9, rfl⟩
def s_lawB (Z N : Nat → Int32) (F : Nat → Nat → Int32) (use : Int32) (a : Int32) (b : Int32) (c : Int32) : Int32 := (-1000000000 - 1)
theorem kc_lawB {Z N : Nat → Int32} {F : Nat → Nat → Int32} (hw : px_cw N) (use : Int32) (a : Int32) (b : Int32) (c : Int32) (hu : ¬ (use = 0 ∨ use = 1)) : px_PM 3 60 [.ref 0, .int use, .int a, .int b, .int c] (px_CH Z N F, []) (fun r h' => r = some (.int (s_lawB Z N F use a b c)) ∧ ∃ Z' N' F', px_sc Z N F Z' N' F' ∧ h' = (px_CH Z' N' F', [])) := by
  refine px_PM.start (nL := 5) (code := pc_60) rfl rfl ?_
  refine px_PW.steps kt_60.2 1 rfl ?_
  refine px_PW.callS kt_60.2 rfl rfl rfl (cc_isUse _ _) (by decide) (fun v h1 q => ?_)
  obtain ⟨rfl, rfl⟩ := q
  refine px_PW.steps kt_60.2 1 rfl ?_
  refine px_PW.br (fun c0 => ?_) (fun c0 => ?_)
  · have c0 : ¬ (use = 0 ∨ use = 1) := px_b1z (of_decide_eq_true c0)
    refine px_PW.steps kt_60.2 2 rfl ?_
    refine px_PW.callV kt_60.2 rfl rfl rfl rfl (cc_error (N := N) hw.2.2.1 1 (by decide)) (by decide) (fun v h1 q => ?_)
    obtain ⟨rfl, rfl⟩ := q
    refine px_PW.ret kt_60.2 rfl rfl ?_
    have E : s_lawB Z N F use a b c = (-1000000000 - 1) := rfl
    rw [E]
    exact ⟨rfl, _, _, _, px_sc.err, rfl⟩
  · have c0 : use = 0 ∨ use = 1 := px_b1n (of_decide_eq_false c0)
    exact absurd c0 hu
