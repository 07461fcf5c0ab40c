theorem px_sc26 {Z N : Nat → Int32} {F : Nat → Nat → Int32} {a b c : Int32} {e : Nat} {g : Nat → Int32} (he : e ≤ 30) : px_sc Z N F (upd (upd (upd Z 18 a) 19 b) 20 c) (upd N 26 (nI e)) (va_up F 26 g) := by
  refine ⟨fun i hi => ?_, fun q hq => px_upd_ne N _ (by omega), fun q hq => px_up_ne F _ (by omega), fun h => ?_⟩
  · rw [px_upd_ne _ _ (by omega), px_upd_ne _ _ (by omega), px_upd_ne _ _ (by omega)]
  · refine ⟨h.1, h.2.1, h.2.2.1, fun q hq => ?_⟩
    by_cases c : q = 26
    · subst c
      rw [px_upd_self]
      exact ⟨nI_pos' (by omega), by rw [nI_toInt (by omega)]; exact Int.ofNat_le.mpr he⟩
    · rw [px_upd_ne N _ c]
      exact h.2.2.2 q hq
theorem cv_speakE {Z N : Nat → Int32} {F : Nat → Nat → Int32} {kk vv : Int32} (h1 : ∃ kd : Nat, kd < 7 ∧ kk = nI kd) (h2 : ∃ vo : Nat, vo < 4 ∧ vv = nI vo) (nu ma x : Int32) : px_PM 6 43 [.ref 63, .int kk, .int nu, .int ma, .int vv, .int x] (px_CH Z N F, []) (fun r h' => r = some (.int (s_speak kk nu ma vv x)) ∧ ∃ (Z' : Nat → Int32) (e : Nat) (g : Nat → Int32), Z' = upd (upd (upd Z 18 kk) 19 nu) 20 ma ∧ e ≤ 30 ∧ h' = (px_CH Z' (upd N 26 (nI e)) (va_up F 26 g), [])) := by
  obtain ⟨kd, hkd, rfl⟩ := h1
  obtain ⟨vo, hvo, rfl⟩ := h2
  exact cv_speak hkd hvo nu ma x
theorem px_lt4 {i : Int32} {n : Nat} (hn : n < 1000) (c0 : ¬ (i < 0)) (c1 : i ≤ nI n) : ∃ k : Nat, k < n + 1 ∧ i = nI k := by
  obtain ⟨k, hk, rfl⟩ := nI_of c0
  rw [nI_leI (by omega) (by omega)] at c1
  exact ⟨k, by omega, rfl⟩
def s_voice (Z N : Nat → Int32) (F : Nat → Nat → Int32) (thing : Int32) (voice : Int32) (x : Int32) : Int32 := (if thing < 0 ∨ (N 1) ≤ thing then (-1000000000 - 1) else (if voice < 0 then (-1000000000 - 1) else (if voice ≤ 3 then (if voice = 3 then (if ((F 2) (thing).toNatClampNeg) = thing then (-1000000000 - 6) else (s_speak ((F 1) (thing).toNatClampNeg) thing ((F 2) (thing).toNatClampNeg) voice x)) else (s_speak ((F 1) (thing).toNatClampNeg) thing ((F 2) (thing).toNatClampNeg) voice x)) else (-1000000000 - 1))))
theorem kc_voice {Z N : Nat → Int32} {F : Nat → Nat → Int32} (hw : px_cw N) (hT : N 2 = N 1 ∧ N 3 = N 1 ∧ N 4 = N 1) (hkd : ∀ t : Int32, ¬ (t < 0 ∨ N 1 ≤ t) → ∃ kd : Nat, kd < 7 ∧ F 1 t.toNatClampNeg = nI kd) (thing : Int32) (voice : Int32) (x : Int32) : px_PM 7 73 [.ref 0, .int thing, .int voice, .int x] (px_CH Z N F, []) (fun r h' => r = some (.int (s_voice Z N F thing voice x)) ∧ ∃ Z' N' F', px_sc Z N F Z' N' F' ∧ h' = (px_CH Z' N' F', [])) := by
  refine px_PM.start (nL := 5) (code := pc_73) rfl rfl ?_
  refine px_PW.steps kt_73.2 2 rfl ?_
  refine px_PW.callV kt_73.2 rfl rfl rfl rfl (cc_isThing _) (by decide) (fun v h1 q => ?_)
  obtain ⟨rfl, rfl⟩ := q
  refine px_PW.steps kt_73.2 1 rfl ?_
  refine px_PW.br (fun c0 => ?_) (fun c0 => ?_)
  · have c0 : thing < 0 ∨ (N 1) ≤ thing := px_b0z (of_decide_eq_true c0)
    refine px_PW.steps kt_73.2 2 rfl ?_
    refine px_PW.callV kt_73.2 rfl rfl rfl rfl (cc_error hw.2.2.1 1 (by decide)) (by decide) (fun v h1 q => ?_)
    obtain ⟨rfl, rfl⟩ := q
    refine px_PW.ret kt_73.2 rfl rfl ?_
    have E : s_voice Z N F thing voice x = (-1000000000 - 1) := if_pos c0
    rw [E]
    exact ⟨rfl, _, _, _, px_sc.err, rfl⟩
  · have c0 : ¬ (thing < 0 ∨ (N 1) ≤ thing) := px_b0n (of_decide_eq_false c0)
    refine px_PW.steps kt_73.2 2 rfl ?_
    refine px_PW.br (fun c1 => ?_) (fun c1 => ?_)
    · have c1 : voice < 0 := of_decide_eq_true c1
      refine px_PW.steps kt_73.2 2 rfl ?_
      refine px_PW.callV kt_73.2 rfl rfl rfl rfl (cc_error hw.2.2.1 1 (by decide)) (by decide) (fun v h1 q => ?_)
      obtain ⟨rfl, rfl⟩ := q
      refine px_PW.ret kt_73.2 rfl rfl ?_
      have E : s_voice Z N F thing voice x = (-1000000000 - 1) := (if_neg c0).trans (if_pos c1)
      rw [E]
      exact ⟨rfl, _, _, _, px_sc.err, rfl⟩
    · have c1 : ¬ (voice < 0) := of_decide_eq_false c1
      refine px_PW.steps kt_73.2 3 rfl ?_
      refine px_PW.br (fun c2 => ?_) (fun c2 => ?_)
      · have c2 : voice ≤ 3 := of_decide_eq_true c2
        refine px_PW.steps kt_73.2 4 rfl ?_
        refine px_PW.callV kt_73.2 rfl rfl rfl rfl (nb_getT (q := 2) (by decide) (hw.lim (by decide)) hT.1 c0) (by decide) (fun v h1 q => ?_)
        obtain ⟨rfl, rfl⟩ := q
        refine px_PW.steps kt_73.2 4 rfl ?_
        refine px_PW.br (fun c3 => ?_) (fun c3 => ?_)
        · have c3 : ¬ (voice = 3) := of_decide_eq_false (px_nt c3)
          refine px_PW.steps kt_73.2 6 rfl ?_
          refine px_PW.callV kt_73.2 rfl rfl rfl rfl (nb_getT (q := 1) (by decide) (hw.lim (by decide)) rfl c0) (by decide) (fun v h1 q => ?_)
          obtain ⟨rfl, rfl⟩ := q
          refine px_PW.steps kt_73.2 4 rfl ?_
          refine px_PW.callV kt_73.2 rfl rfl rfl rfl (cv_speakE (hkd _ c0) (px_lt4 (n := 3) (by decide) c1 c2) _ _ _) (by decide) (fun v h1 q => ?_)
          obtain ⟨rfl, Z9, e9, g9, rfl, he9, rfl⟩ := q
          refine px_PW.ret kt_73.2 rfl rfl ?_
          have E : s_voice Z N F thing voice x = (s_speak ((F 1) (thing).toNatClampNeg) thing ((F 2) (thing).toNatClampNeg) voice x) := (if_neg c0).trans ((if_neg c1).trans ((if_pos c2).trans (if_neg c3)))
          rw [E]
          exact ⟨rfl, _, _, _, px_sc26 he9, rfl⟩
        · have c3 : voice = 3 := of_decide_eq_true (px_nf c3)
          refine px_PW.steps kt_73.2 3 rfl ?_
          refine px_PW.br (fun c4 => ?_) (fun c4 => ?_)
          · have c4 : ¬ (((F 2) (thing).toNatClampNeg) = thing) := of_decide_eq_false (px_nt c4)
            refine px_PW.steps kt_73.2 6 rfl ?_
            refine px_PW.callV kt_73.2 rfl rfl rfl rfl (nb_getT (q := 1) (by decide) (hw.lim (by decide)) rfl c0) (by decide) (fun v h1 q => ?_)
            obtain ⟨rfl, rfl⟩ := q
            refine px_PW.steps kt_73.2 4 rfl ?_
            refine px_PW.callV kt_73.2 rfl rfl rfl rfl (cv_speakE (hkd _ c0) (px_lt4 (n := 3) (by decide) c1 c2) _ _ _) (by decide) (fun v h1 q => ?_)
            obtain ⟨rfl, Z9, e9, g9, rfl, he9, rfl⟩ := q
            refine px_PW.ret kt_73.2 rfl rfl ?_
            have E : s_voice Z N F thing voice x = (s_speak ((F 1) (thing).toNatClampNeg) thing ((F 2) (thing).toNatClampNeg) voice x) := (if_neg c0).trans ((if_neg c1).trans ((if_pos c2).trans ((if_pos c3).trans (if_neg c4))))
            rw [E]
            exact ⟨rfl, _, _, _, px_sc26 he9, rfl⟩
          · have c4 : ((F 2) (thing).toNatClampNeg) = thing := of_decide_eq_true (px_nf c4)
            refine px_PW.steps kt_73.2 2 rfl ?_
            refine px_PW.callV kt_73.2 rfl rfl rfl rfl (cc_error hw.2.2.1 6 (by decide)) (by decide) (fun v h1 q => ?_)
            obtain ⟨rfl, rfl⟩ := q
            refine px_PW.ret kt_73.2 rfl rfl ?_
            have E : s_voice Z N F thing voice x = (-1000000000 - 6) := (if_neg c0).trans ((if_neg c1).trans ((if_pos c2).trans ((if_pos c3).trans (if_pos c4))))
            rw [E]
            exact ⟨rfl, _, _, _, px_sc.err, rfl⟩
      · have c2 : ¬ (voice ≤ 3) := of_decide_eq_false c2
        refine px_PW.steps kt_73.2 2 rfl ?_
        refine px_PW.callV kt_73.2 rfl rfl rfl rfl (cc_error hw.2.2.1 1 (by decide)) (by decide) (fun v h1 q => ?_)
        obtain ⟨rfl, rfl⟩ := q
        refine px_PW.ret kt_73.2 rfl rfl ?_
        have E : s_voice Z N F thing voice x = (-1000000000 - 1) := (if_neg c0).trans ((if_neg c1).trans (if_neg c2))
        rw [E]
        exact ⟨rfl, _, _, _, px_sc.err, rfl⟩
def zz_st (f : Nat → Int32) : List Int32 → Prop
  | [] => True
  | v :: r => f r.length = v ∧ zz_st f r
theorem zz_st_up {f : Nat → Int32} {v : Int32} : ∀ (l : List Int32) (n : Nat), l.length ≤ n → zz_st f l → zz_st (upd f n v) l
  | [], _, _, _ => trivial
  | a :: r, n, hn, h => by
    simp only [List.length_cons] at hn
    exact ⟨by rw [px_upd_ne f v (by omega)]; exact h.1, zz_st_up r n (by omega) h.2⟩
theorem zz_st_push {f : Nat → Int32} {v : Int32} {l : List Int32} (h : zz_st f l) : zz_st (upd f l.length v) (v :: l) := ⟨px_upd_self f _ v, zz_st_up l _ (Nat.le_refl _) h⟩
theorem zz_st_tail {f : Nat → Int32} {l : List Int32} (h : zz_st f l) : zz_st f l.tail := by
  cases l with
  | nil => exact h
  | cons a r => exact h.2
theorem nb_popS {Z N : Nat → Int32} {F : Nat → Nat → Int32} {q : Nat} (hq : q < 27) {l : List Int32} (hN : N q = nI l.length) (hl : l.length ≤ px_lim q) (hs : zz_st (F q) l) : px_PM 1 9 [.ref (px_O q)] (px_CH Z N F, []) (fun r h' => r = some (.int (l.headD 0)) ∧ h' = (px_CH Z (upd N q (nI l.tail.length)) F, [])) := by
  have hb := (px_lim_i hq).2
  have h := nb_pop (Z := Z) (N := N) (F := F) hq (by rw [hN, nI_toInt (by omega)]; omega)
  cases l with
  | nil =>
    have e : ¬ ((1 : Int32) ≤ N q) := by rw [hN]; decide
    rw [if_neg e, if_neg e] at h
    have e2 : upd N q (nI ([] : List Int32).tail.length) = N := by rw [show ([] : List Int32).tail.length = ([] : List Int32).length from rfl, ← hN, zz_ui]
    rw [e2]
    exact h
  | cons v r =>
    simp only [List.length_cons] at hN hl
    have e : (1 : Int32) ≤ N q := by rw [hN]; exact (nI_leI (a := 1) (by omega) (by omega)).mpr (by omega)
    rw [if_pos e, if_pos e, hN, nI_pred, nI_clamp (by omega), hs.1] at h
    exact h
theorem nb_pushS {Z N : Nat → Int32} {F : Nat → Nat → Int32} {q : Nat} (hq : q < 27) {l : List Int32} (hN : N q = nI l.length) (hl : l.length < px_lim q) (v : Int32) : px_PM 1 8 [.ref (px_O q), .int v] (px_CH Z N F, []) (fun r h' => r = none ∧ h' = (px_CH Z (upd N q (nI (v :: l).length)) (va_up F q (upd (F q) l.length v)), [])) := nb_addN hq hN hl v
def s_join (sg y x : Int32) : Int32 := (if sg = 37 then (i_rem x y) else (if sg = 38 then (if x = 0 then 0 else (if y = 0 then 0 else 1)) else (if sg = 42 then (x * y) else (if sg = 43 then (x + y) else (if sg = 45 then (x - y) else (if sg = 47 then (i_quo x y) else (if sg = 60 then (if y ≤ x then 0 else 1) else (if sg = 61 then (if x = y then 1 else 0) else (if sg = 62 then (if x ≤ y then 0 else 1) else (if sg = 124 then (if x = 0 then (if y = 0 then 0 else 1) else 1) else 0))))))))))
theorem px_swd_23_17 {x : Int32} (c0 : ¬ (x = 37)) (c1 : ¬ (x = 38)) (c2 : ¬ (x = 42)) (c3 : ¬ (x = 43)) (c4 : ¬ (x = 45)) (c5 : ¬ (x = 47)) (c6 : ¬ (x = 60)) (c7 : ¬ (x = 61)) (c8 : ¬ (x = 62)) (c9 : ¬ (x = 124)) : px_lk [(37, 202), (38, 125), (42, 192), (43, 184), (45, 188), (47, 196), (60, 142), (61, 156), (62, 170), (124, 108)] 208 x.toInt = 208 := by
  have d0 : ¬ (x.toInt = 37) := fun h => c0 (px_i_of h (by decide +kernel))
  have d1 : ¬ (x.toInt = 38) := fun h => c1 (px_i_of h (by decide +kernel))
  have d2 : ¬ (x.toInt = 42) := fun h => c2 (px_i_of h (by decide +kernel))
  have d3 : ¬ (x.toInt = 43) := fun h => c3 (px_i_of h (by decide +kernel))
  have d4 : ¬ (x.toInt = 45) := fun h => c4 (px_i_of h (by decide +kernel))
  have d5 : ¬ (x.toInt = 47) := fun h => c5 (px_i_of h (by decide +kernel))
  have d6 : ¬ (x.toInt = 60) := fun h => c6 (px_i_of h (by decide +kernel))
  have d7 : ¬ (x.toInt = 61) := fun h => c7 (px_i_of h (by decide +kernel))
  have d8 : ¬ (x.toInt = 62) := fun h => c8 (px_i_of h (by decide +kernel))
  have d9 : ¬ (x.toInt = 124) := fun h => c9 (px_i_of h (by decide +kernel))
  simp only [px_lk, decide_eq_false (fun h : (37 : Int) = x.toInt => d0 h.symm), decide_eq_false (fun h : (38 : Int) = x.toInt => d1 h.symm), decide_eq_false (fun h : (42 : Int) = x.toInt => d2 h.symm), decide_eq_false (fun h : (43 : Int) = x.toInt => d3 h.symm), decide_eq_false (fun h : (45 : Int) = x.toInt => d4 h.symm), decide_eq_false (fun h : (47 : Int) = x.toInt => d5 h.symm), decide_eq_false (fun h : (60 : Int) = x.toInt => d6 h.symm), decide_eq_false (fun h : (61 : Int) = x.toInt => d7 h.symm), decide_eq_false (fun h : (62 : Int) = x.toInt => d8 h.symm), decide_eq_false (fun h : (124 : Int) = x.toInt => d9 h.symm)]
  rfl
theorem cv_join {Z N : Nat → Int32} {F : Nat → Nat → Int32} {st : List Int32} (hN : N 25 = nI st.length) (hl : st.length ≤ 60) (hs : zz_st (F 25) st) (sg : Int32) : px_PM 2 23 [.ref 60, .int sg] (px_CH Z N F, []) (fun r h' => r = some (.int (s_join sg (st.headD 0) (st.tail.headD 0))) ∧ h' = (px_CH Z (upd N 25 (nI st.tail.tail.length)) F, [])) := by
  refine px_PM.start (nL := 4) (code := pc_23) rfl rfl ?_
  refine px_PW.steps kt_23.2 2 rfl ?_
  refine px_PW.callV kt_23.2 rfl rfl rfl rfl (nb_popS (N := N) (q := 25) (l := st) (by decide) hN hl hs) (by decide) (fun v h1 q => ?_)
  obtain ⟨rfl, rfl⟩ := q
  refine px_PW.steps kt_23.2 3 rfl ?_
  refine px_PW.callV kt_23.2 rfl rfl rfl rfl (nb_popS (N := (upd N 25 (nI st.tail.length))) (q := 25) (l := st.tail) (by decide) rfl (by show st.tail.length ≤ 60; rw [List.length_tail]; omega) (zz_st_tail hs)) (by decide) (fun v h1 q => ?_)
  obtain ⟨rfl, rfl⟩ := q
  refine px_PW.steps kt_23.2 3 rfl ?_
  by_cases c0 : sg = 37
  · refine px_PW.at (pc' := 202) (show px_lk [(37, 202), (38, 125), (42, 192), (43, 184), (45, 188), (47, 196), (60, 142), (61, 156), (62, 170), (124, 108)] 208 (sg : Int32).toInt = 202 by rw [c0]; rfl) ?_
    refine px_PW.steps kt_23.2 2 rfl ?_
    refine px_PW.callS kt_23.2 rfl rfl rfl (cc_rest _ _ _) (by decide) (fun v h1 q => ?_)
    obtain ⟨rfl, rfl⟩ := q
    refine px_PW.ret kt_23.2 rfl rfl ?_
    exact ⟨congrArg (fun z => some (Value.int z)) (show s_join sg (st.headD 0) (st.tail.headD 0) = (i_rem (st.tail.headD 0) (st.headD 0)) from if_pos c0).symm, by rw [zz_uu]⟩
  · skip
    by_cases c1 : sg = 38
    · refine px_PW.at (pc' := 125) (show px_lk [(37, 202), (38, 125), (42, 192), (43, 184), (45, 188), (47, 196), (60, 142), (61, 156), (62, 170), (124, 108)] 208 (sg : Int32).toInt = 125 by rw [c1]; rfl) ?_
      refine px_PW.steps kt_23.2 2 rfl ?_
      refine px_PW.br (fun c2 => ?_) (fun c2 => ?_)
      · have c2 : (st.tail.headD 0) = 0 := of_decide_eq_true c2
        refine px_PW.steps kt_23.2 1 rfl ?_
        refine px_PW.callS kt_23.2 rfl rfl rfl (cc_truth _ _) (by decide) (fun v h1 q => ?_)
        obtain ⟨rfl, rfl⟩ := q
        refine px_PW.ret kt_23.2 rfl rfl ?_
        exact ⟨congrArg (fun z => some (Value.int z)) (show s_join sg (st.headD 0) (st.tail.headD 0) = 0 from (if_neg c0).trans ((if_pos c1).trans (if_pos c2))).symm, by rw [zz_uu]⟩
      · have c2 : ¬ ((st.tail.headD 0) = 0) := of_decide_eq_false c2
        refine px_PW.steps kt_23.2 2 rfl ?_
        refine px_PW.br (fun c3 => ?_) (fun c3 => ?_)
        · have c3 : (st.headD 0) = 0 := of_decide_eq_true c3
          refine px_PW.steps kt_23.2 1 rfl ?_
          refine px_PW.callS kt_23.2 rfl rfl rfl (cc_truth _ _) (by decide) (fun v h1 q => ?_)
          obtain ⟨rfl, rfl⟩ := q
          refine px_PW.ret kt_23.2 rfl rfl ?_
          exact ⟨congrArg (fun z => some (Value.int z)) (show s_join sg (st.headD 0) (st.tail.headD 0) = 0 from (if_neg c0).trans ((if_pos c1).trans ((if_neg c2).trans (if_pos c3)))).symm, by rw [zz_uu]⟩
        · have c3 : ¬ ((st.headD 0) = 0) := of_decide_eq_false c3
          refine px_PW.steps kt_23.2 2 rfl ?_
          refine px_PW.callS kt_23.2 rfl rfl rfl (cc_truth _ _) (by decide) (fun v h1 q => ?_)
          obtain ⟨rfl, rfl⟩ := q
          refine px_PW.ret kt_23.2 rfl rfl ?_
          exact ⟨congrArg (fun z => some (Value.int z)) (show s_join sg (st.headD 0) (st.tail.headD 0) = 1 from (if_neg c0).trans ((if_pos c1).trans ((if_neg c2).trans (if_neg c3)))).symm, by rw [zz_uu]⟩
    · skip
      by_cases c4 : sg = 42
      · refine px_PW.at (pc' := 192) (show px_lk [(37, 202), (38, 125), (42, 192), (43, 184), (45, 188), (47, 196), (60, 142), (61, 156), (62, 170), (124, 108)] 208 (sg : Int32).toInt = 192 by rw [c4]; rfl) ?_
        refine px_PW.steps kt_23.2 3 rfl ?_
        refine px_PW.ret kt_23.2 rfl rfl ?_
        exact ⟨congrArg (fun z => some (Value.int z)) (show s_join sg (st.headD 0) (st.tail.headD 0) = ((st.tail.headD 0) * (st.headD 0)) from (if_neg c0).trans ((if_neg c1).trans (if_pos c4))).symm, by rw [zz_uu]⟩
      · skip
        by_cases c5 : sg = 43
        · refine px_PW.at (pc' := 184) (show px_lk [(37, 202), (38, 125), (42, 192), (43, 184), (45, 188), (47, 196), (60, 142), (61, 156), (62, 170), (124, 108)] 208 (sg : Int32).toInt = 184 by rw [c5]; rfl) ?_
          refine px_PW.steps kt_23.2 3 rfl ?_
          refine px_PW.ret kt_23.2 rfl rfl ?_
          exact ⟨congrArg (fun z => some (Value.int z)) (show s_join sg (st.headD 0) (st.tail.headD 0) = ((st.tail.headD 0) + (st.headD 0)) from (if_neg c0).trans ((if_neg c1).trans ((if_neg c4).trans (if_pos c5)))).symm, by rw [zz_uu]⟩
        · skip
          by_cases c6 : sg = 45
          · refine px_PW.at (pc' := 188) (show px_lk [(37, 202), (38, 125), (42, 192), (43, 184), (45, 188), (47, 196), (60, 142), (61, 156), (62, 170), (124, 108)] 208 (sg : Int32).toInt = 188 by rw [c6]; rfl) ?_
            refine px_PW.steps kt_23.2 3 rfl ?_
            refine px_PW.ret kt_23.2 rfl rfl ?_
            exact ⟨congrArg (fun z => some (Value.int z)) (show s_join sg (st.headD 0) (st.tail.headD 0) = ((st.tail.headD 0) - (st.headD 0)) from (if_neg c0).trans ((if_neg c1).trans ((if_neg c4).trans ((if_neg c5).trans (if_pos c6))))).symm, by rw [zz_uu]⟩
          · skip
            by_cases c7 : sg = 47
            · refine px_PW.at (pc' := 196) (show px_lk [(37, 202), (38, 125), (42, 192), (43, 184), (45, 188), (47, 196), (60, 142), (61, 156), (62, 170), (124, 108)] 208 (sg : Int32).toInt = 196 by rw [c7]; rfl) ?_
              refine px_PW.steps kt_23.2 2 rfl ?_
              refine px_PW.callS kt_23.2 rfl rfl rfl (cc_quot _ _ _) (by decide) (fun v h1 q => ?_)
              obtain ⟨rfl, rfl⟩ := q
              refine px_PW.ret kt_23.2 rfl rfl ?_
              exact ⟨congrArg (fun z => some (Value.int z)) (show s_join sg (st.headD 0) (st.tail.headD 0) = (i_quo (st.tail.headD 0) (st.headD 0)) from (if_neg c0).trans ((if_neg c1).trans ((if_neg c4).trans ((if_neg c5).trans ((if_neg c6).trans (if_pos c7)))))).symm, by rw [zz_uu]⟩
            · skip
              by_cases c8 : sg = 60
              · refine px_PW.at (pc' := 142) (show px_lk [(37, 202), (38, 125), (42, 192), (43, 184), (45, 188), (47, 196), (60, 142), (61, 156), (62, 170), (124, 108)] 208 (sg : Int32).toInt = 142 by rw [c8]; rfl) ?_
                refine px_PW.steps kt_23.2 3 rfl ?_
                refine px_PW.br (fun c9 => ?_) (fun c9 => ?_)
                · have c9 : (st.headD 0) ≤ (st.tail.headD 0) := of_decide_eq_true c9
                  refine px_PW.steps kt_23.2 1 rfl ?_
                  refine px_PW.callS kt_23.2 rfl rfl rfl (cc_truth _ _) (by decide) (fun v h1 q => ?_)
                  obtain ⟨rfl, rfl⟩ := q
                  refine px_PW.ret kt_23.2 rfl rfl ?_
                  exact ⟨congrArg (fun z => some (Value.int z)) (show s_join sg (st.headD 0) (st.tail.headD 0) = 0 from (if_neg c0).trans ((if_neg c1).trans ((if_neg c4).trans ((if_neg c5).trans ((if_neg c6).trans ((if_neg c7).trans ((if_pos c8).trans (if_pos c9)))))))).symm, by rw [zz_uu]⟩
                · have c9 : ¬ ((st.headD 0) ≤ (st.tail.headD 0)) := of_decide_eq_false c9
                  refine px_PW.steps kt_23.2 2 rfl ?_
                  refine px_PW.callS kt_23.2 rfl rfl rfl (cc_truth _ _) (by decide) (fun v h1 q => ?_)
                  obtain ⟨rfl, rfl⟩ := q
                  refine px_PW.ret kt_23.2 rfl rfl ?_
                  exact ⟨congrArg (fun z => some (Value.int z)) (show s_join sg (st.headD 0) (st.tail.headD 0) = 1 from (if_neg c0).trans ((if_neg c1).trans ((if_neg c4).trans ((if_neg c5).trans ((if_neg c6).trans ((if_neg c7).trans ((if_pos c8).trans (if_neg c9)))))))).symm, by rw [zz_uu]⟩
              · skip
                by_cases c10 : sg = 61
                · refine px_PW.at (pc' := 156) (show px_lk [(37, 202), (38, 125), (42, 192), (43, 184), (45, 188), (47, 196), (60, 142), (61, 156), (62, 170), (124, 108)] 208 (sg : Int32).toInt = 156 by rw [c10]; rfl) ?_
                  refine px_PW.steps kt_23.2 3 rfl ?_
                  refine px_PW.br (fun c11 => ?_) (fun c11 => ?_)
                  · have c11 : ¬ ((st.tail.headD 0) = (st.headD 0)) := of_decide_eq_false (px_nt c11)
                    refine px_PW.steps kt_23.2 1 rfl ?_
                    refine px_PW.callS kt_23.2 rfl rfl rfl (cc_truth _ _) (by decide) (fun v h1 q => ?_)
                    obtain ⟨rfl, rfl⟩ := q
                    refine px_PW.ret kt_23.2 rfl rfl ?_
                    exact ⟨congrArg (fun z => some (Value.int z)) (show s_join sg (st.headD 0) (st.tail.headD 0) = 0 from (if_neg c0).trans ((if_neg c1).trans ((if_neg c4).trans ((if_neg c5).trans ((if_neg c6).trans ((if_neg c7).trans ((if_neg c8).trans ((if_pos c10).trans (if_neg c11))))))))).symm, by rw [zz_uu]⟩
                  · have c11 : (st.tail.headD 0) = (st.headD 0) := of_decide_eq_true (px_nf c11)
                    refine px_PW.steps kt_23.2 2 rfl ?_
                    refine px_PW.callS kt_23.2 rfl rfl rfl (cc_truth _ _) (by decide) (fun v h1 q => ?_)
                    obtain ⟨rfl, rfl⟩ := q
                    refine px_PW.ret kt_23.2 rfl rfl ?_
                    exact ⟨congrArg (fun z => some (Value.int z)) (show s_join sg (st.headD 0) (st.tail.headD 0) = 1 from (if_neg c0).trans ((if_neg c1).trans ((if_neg c4).trans ((if_neg c5).trans ((if_neg c6).trans ((if_neg c7).trans ((if_neg c8).trans ((if_pos c10).trans (if_pos c11))))))))).symm, by rw [zz_uu]⟩
                · skip
                  by_cases c12 : sg = 62
                  · refine px_PW.at (pc' := 170) (show px_lk [(37, 202), (38, 125), (42, 192), (43, 184), (45, 188), (47, 196), (60, 142), (61, 156), (62, 170), (124, 108)] 208 (sg : Int32).toInt = 170 by rw [c12]; rfl) ?_
                    refine px_PW.steps kt_23.2 3 rfl ?_
                    refine px_PW.br (fun c13 => ?_) (fun c13 => ?_)
                    · have c13 : (st.tail.headD 0) ≤ (st.headD 0) := of_decide_eq_true c13
                      refine px_PW.steps kt_23.2 1 rfl ?_
                      refine px_PW.callS kt_23.2 rfl rfl rfl (cc_truth _ _) (by decide) (fun v h1 q => ?_)
                      obtain ⟨rfl, rfl⟩ := q
                      refine px_PW.ret kt_23.2 rfl rfl ?_
                      exact ⟨congrArg (fun z => some (Value.int z)) (show s_join sg (st.headD 0) (st.tail.headD 0) = 0 from (if_neg c0).trans ((if_neg c1).trans ((if_neg c4).trans ((if_neg c5).trans ((if_neg c6).trans ((if_neg c7).trans ((if_neg c8).trans ((if_neg c10).trans ((if_pos c12).trans (if_pos c13)))))))))).symm, by rw [zz_uu]⟩
                    · have c13 : ¬ ((st.tail.headD 0) ≤ (st.headD 0)) := of_decide_eq_false c13
                      refine px_PW.steps kt_23.2 2 rfl ?_
                      refine px_PW.callS kt_23.2 rfl rfl rfl (cc_truth _ _) (by decide) (fun v h1 q => ?_)
                      obtain ⟨rfl, rfl⟩ := q
                      refine px_PW.ret kt_23.2 rfl rfl ?_
                      exact ⟨congrArg (fun z => some (Value.int z)) (show s_join sg (st.headD 0) (st.tail.headD 0) = 1 from (if_neg c0).trans ((if_neg c1).trans ((if_neg c4).trans ((if_neg c5).trans ((if_neg c6).trans ((if_neg c7).trans ((if_neg c8).trans ((if_neg c10).trans ((if_pos c12).trans (if_neg c13)))))))))).symm, by rw [zz_uu]⟩
                  · skip
                    by_cases c14 : sg = 124
                    · refine px_PW.at (pc' := 108) (show px_lk [(37, 202), (38, 125), (42, 192), (43, 184), (45, 188), (47, 196), (60, 142), (61, 156), (62, 170), (124, 108)] 208 (sg : Int32).toInt = 108 by rw [c14]; rfl) ?_
                      refine px_PW.steps kt_23.2 2 rfl ?_
                      refine px_PW.br (fun c15 => ?_) (fun c15 => ?_)
                      · have c15 : ¬ ((st.tail.headD 0) = 0) := of_decide_eq_false (px_nt c15)
                        refine px_PW.steps kt_23.2 2 rfl ?_
                        refine px_PW.callS kt_23.2 rfl rfl rfl (cc_truth _ _) (by decide) (fun v h1 q => ?_)
                        obtain ⟨rfl, rfl⟩ := q
                        refine px_PW.ret kt_23.2 rfl rfl ?_
                        exact ⟨congrArg (fun z => some (Value.int z)) (show s_join sg (st.headD 0) (st.tail.headD 0) = 1 from (if_neg c0).trans ((if_neg c1).trans ((if_neg c4).trans ((if_neg c5).trans ((if_neg c6).trans ((if_neg c7).trans ((if_neg c8).trans ((if_neg c10).trans ((if_neg c12).trans ((if_pos c14).trans (if_neg c15))))))))))).symm, by rw [zz_uu]⟩
                      · have c15 : (st.tail.headD 0) = 0 := of_decide_eq_true (px_nf c15)
                        refine px_PW.steps kt_23.2 2 rfl ?_
                        refine px_PW.br (fun c16 => ?_) (fun c16 => ?_)
                        · have c16 : (st.headD 0) = 0 := of_decide_eq_true c16
                          refine px_PW.steps kt_23.2 1 rfl ?_
                          refine px_PW.callS kt_23.2 rfl rfl rfl (cc_truth _ _) (by decide) (fun v h1 q => ?_)
                          obtain ⟨rfl, rfl⟩ := q
                          refine px_PW.ret kt_23.2 rfl rfl ?_
                          exact ⟨congrArg (fun z => some (Value.int z)) (show s_join sg (st.headD 0) (st.tail.headD 0) = 0 from (if_neg c0).trans ((if_neg c1).trans ((if_neg c4).trans ((if_neg c5).trans ((if_neg c6).trans ((if_neg c7).trans ((if_neg c8).trans ((if_neg c10).trans ((if_neg c12).trans ((if_pos c14).trans ((if_pos c15).trans (if_pos c16)))))))))))).symm, by rw [zz_uu]⟩
                        · have c16 : ¬ ((st.headD 0) = 0) := of_decide_eq_false c16
                          refine px_PW.steps kt_23.2 2 rfl ?_
                          refine px_PW.callS kt_23.2 rfl rfl rfl (cc_truth _ _) (by decide) (fun v h1 q => ?_)
                          obtain ⟨rfl, rfl⟩ := q
                          refine px_PW.ret kt_23.2 rfl rfl ?_
                          exact ⟨congrArg (fun z => some (Value.int z)) (show s_join sg (st.headD 0) (st.tail.headD 0) = 1 from (if_neg c0).trans ((if_neg c1).trans ((if_neg c4).trans ((if_neg c5).trans ((if_neg c6).trans ((if_neg c7).trans ((if_neg c8).trans ((if_neg c10).trans ((if_neg c12).trans ((if_pos c14).trans ((if_pos c15).trans (if_neg c16)))))))))))).symm, by rw [zz_uu]⟩
                    · skip
                      refine px_PW.at (px_swd_23_17 c0 c1 c4 c5 c6 c7 c8 c10 c12 c14) ?_
                      refine px_PW.steps kt_23.2 1 rfl ?_
                      refine px_PW.ret kt_23.2 rfl rfl ?_
                      exact ⟨congrArg (fun z => some (Value.int z)) (show s_join sg (st.headD 0) (st.tail.headD 0) = 0 from (if_neg c0).trans ((if_neg c1).trans ((if_neg c4).trans ((if_neg c5).trans ((if_neg c6).trans ((if_neg c7).trans ((if_neg c8).trans ((if_neg c10).trans ((if_neg c12).trans (if_neg c14)))))))))).symm, by rw [zz_uu]⟩
/-- one code worked out, on a stack -/
def s_evc (a b c : Int32) (co : Int32) (st : List Int32) : List Int32 := if co = -33 then (if st.headD 0 = 0 then (1 : Int32) else 0) :: st.tail else if co = -3 then c :: st else if co = -2 then b :: st else if co = -1 then a :: st else if co < 0 then s_join (-co) (st.headD 0) (st.tail.headD 0) :: st.tail.tail else co :: st
def s_evs (g : Nat → Int32) (a b c : Int32) : Nat → Nat → List Int32 → List Int32
  | 0, _, st => st
  | m + 1, k, st => s_evs g a b c m (k + 1) (s_evc a b c (g k) st)
theorem s_evc_len (a b c co : Int32) (st : List Int32) : (s_evc a b c co st).length ≤ st.length + 1 := by
  unfold s_evc
  have h1 : st.tail.length ≤ st.length := by rw [List.length_tail]; omega
  have h2 : st.tail.tail.length ≤ st.tail.length := by rw [List.length_tail]; omega
  repeat' split
  all_goals (simp only [List.length_cons]; omega)
theorem px_swd_22_29 {x : Int32} (c0 : ¬ (x = (-33))) (c1 : ¬ (x = (-3))) (c2 : ¬ (x = (-2))) (c3 : ¬ (x = (-1))) : px_lk [((-33), 106), ((-3), 94), ((-2), 83), ((-1), 72)] 134 x.toInt = 134 := by
  have d0 : ¬ (x.toInt = -33) := fun h => c0 (px_i_of h (by decide +kernel))
  have d1 : ¬ (x.toInt = -3) := fun h => c1 (px_i_of h (by decide +kernel))
  have d2 : ¬ (x.toInt = -2) := fun h => c2 (px_i_of h (by decide +kernel))
  have d3 : ¬ (x.toInt = -1) := fun h => c3 (px_i_of h (by decide +kernel))
  simp only [px_lk, decide_eq_false (fun h : (-33 : Int) = x.toInt => d0 h.symm), decide_eq_false (fun h : (-3 : Int) = x.toInt => d1 h.symm), decide_eq_false (fun h : (-2 : Int) = x.toInt => d2 h.symm), decide_eq_false (fun h : (-1 : Int) = x.toInt => d3 h.symm)]
  rfl
theorem c_val6_loop {Z N : Nat → Int32} {F : Nat → Nat → Int32} {n : Nat} (hn : N 6 = nI n) (hn60 : n ≤ 60) {a b c : Int32} {Q : Option Value → px_H → Prop} : ∀ (m k : Nat) (st : List Int32) (f : Nat → Int32) (o6 : Option Value), k + m = n → st.length ≤ k → zz_st f st → (∀ (g : Nat → Int32) (o6 : Option Value), (s_evs (F 6) a b c m k st).length ≤ 60 → zz_st g (s_evs (F 6) a b c m k st) → px_PW 2 pc_22 Q 164 [some (.ref 60), some (.ref 14), some (.int a), some (.int b), some (.int c), some (.int (nI n)), o6] [] (px_CH Z (upd N 25 (nI (s_evs (F 6) a b c m k st).length)) (va_up F 25 g), [])) → px_PW 2 pc_22 Q 10 [some (.ref 60), some (.ref 14), some (.int a), some (.int b), some (.int c), some (.int (nI k)), o6] [] (px_CH Z (upd N 25 (nI st.length)) (va_up F 25 f), [])
  | m, k, st, f, o6, hk, hl, hs, H => by
    refine px_PW.steps kt_22.2 2 rfl ?_
    refine px_PW.callV kt_22.2 rfl rfl rfl rfl (nb_size (q := 6) (by decide)) (by decide) (fun v h1 q => ?_)
    obtain ⟨rfl, rfl⟩ := q
    rw [show upd N 25 (nI st.length) 6 = nI n from hn]
    refine px_PW.steps kt_22.2 1 rfl ?_
    refine px_PW.br (fun c0 => ?_) (fun c0 => ?_)
    · have c0 : (nI n) ≤ (nI k) := of_decide_eq_true c0
      have c0 : n ≤ k := (nI_leI (a := n) (b := k) (by omega) (by omega)).mp c0
      obtain rfl : m = 0 := by omega
      obtain rfl : k = n := by omega
      exact H f _ (by show st.length ≤ 60; omega) hs
    · have c0 : ¬ ((nI n) ≤ (nI k)) := of_decide_eq_false c0
      have c0 : ¬ (n ≤ k) := fun q => c0 ((nI_leI (a := n) (b := k) (by omega) (by omega)).mpr q)
      obtain ⟨m2, rfl⟩ : ∃ m2, m = m2 + 1 := ⟨m - 1, by omega⟩
      refine px_PW.steps kt_22.2 2 rfl ?_
      refine px_PW.callV kt_22.2 rfl rfl rfl rfl (nb_getN (q := 6) (n := k) (L := n) (by decide) hn (show n ≤ px_lim 6 from hn60) (by omega)) (by decide) (fun v h1 q => ?_)
      obtain ⟨rfl, rfl⟩ := q
      refine px_PW.steps kt_22.2 3 rfl ?_
      by_cases c1 : (F 6 k) = (-33)
      · refine px_PW.at (pc' := 106) (show px_lk [((-33), 106), ((-3), 94), ((-2), 83), ((-1), 72)] 134 ((F 6 k) : Int32).toInt = 106 by rw [c1]; rfl) ?_
        refine px_PW.steps kt_22.2 4 rfl ?_
        refine px_PW.callV kt_22.2 rfl rfl rfl rfl (nb_popS (N := (upd N 25 (nI st.length))) (q := 25) (l := st) (by decide) rfl (by have := hl; show _ ≤ 60; first | omega | (simp only [List.length_tail]; omega)) hs) (by decide) (fun v h1 q => ?_)
        obtain ⟨rfl, rfl⟩ := q
        refine px_PW.steps kt_22.2 1 rfl ?_
        refine px_PW.br (fun c2 => ?_) (fun c2 => ?_)
        · have c2 : ¬ ((st.headD 0) = 0) := of_decide_eq_false (px_nt c2)
          refine px_PW.steps kt_22.2 1 rfl ?_
          refine px_PW.callS kt_22.2 rfl rfl rfl (cc_truth _ _) (by decide) (fun v h1 q => ?_)
          obtain ⟨rfl, rfl⟩ := q
          refine px_PW.callV kt_22.2 rfl rfl rfl rfl (nb_pushS (N := (upd (upd N 25 (nI st.length)) 25 (nI st.tail.length))) (q := 25) (l := st.tail) (by decide) rfl (by have := hl; show _ < 60; first | omega | (simp only [List.length_tail]; omega)) _) (by decide) (fun v h1 q => ?_)
          obtain ⟨rfl, rfl⟩ := q
          refine px_PW.steps kt_22.2 3 rfl ?_
          have e0 : s_evc a b c (F 6 k) st = (0 :: st.tail) := (if_pos c1).trans (congrArg (fun z : Int32 => z :: st.tail) (if_neg c2))
          have hl2 := s_evc_len a b c (F 6 k) st
          have hz : zz_st (upd f st.tail.length 0) (s_evc a b c (F 6 k) st) := by rw [e0]; exact (zz_st_push (zz_st_tail hs))
          have g := c_val6_loop hn hn60 (Z := Z) (a := a) (b := b) (c := c) (Q := Q) m2 (k + 1) (s_evc a b c (F 6 k) st) (upd f st.tail.length 0) (some (.int (F 6 k))) (by omega) (by omega) hz H
          rw [e0, nI_succ k] at g
          have e3 : upd N 25 (nI ((0 :: st.tail)).length) = (upd (upd (upd N 25 (nI st.length)) 25 (nI st.tail.length)) 25 (nI (0 :: st.tail).length)) := by rw [zz_uu, zz_uu]
          have e2 : va_up F 25 (upd f st.tail.length 0) = (va_up (va_up F 25 f) 25 (upd f st.tail.length 0)) := by rw [px_up_up]
          rw [e3, e2] at g
          exact g
        · have c2 : (st.headD 0) = 0 := of_decide_eq_true (px_nf c2)
          refine px_PW.steps kt_22.2 2 rfl ?_
          refine px_PW.callS kt_22.2 rfl rfl rfl (cc_truth _ _) (by decide) (fun v h1 q => ?_)
          obtain ⟨rfl, rfl⟩ := q
          refine px_PW.callV kt_22.2 rfl rfl rfl rfl (nb_pushS (N := (upd (upd N 25 (nI st.length)) 25 (nI st.tail.length))) (q := 25) (l := st.tail) (by decide) rfl (by have := hl; show _ < 60; first | omega | (simp only [List.length_tail]; omega)) _) (by decide) (fun v h1 q => ?_)
          obtain ⟨rfl, rfl⟩ := q
          refine px_PW.steps kt_22.2 3 rfl ?_
          have e0 : s_evc a b c (F 6 k) st = (1 :: st.tail) := (if_pos c1).trans (congrArg (fun z : Int32 => z :: st.tail) (if_pos c2))
          have hl2 := s_evc_len a b c (F 6 k) st
          have hz : zz_st (upd f st.tail.length 1) (s_evc a b c (F 6 k) st) := by rw [e0]; exact (zz_st_push (zz_st_tail hs))
          have g := c_val6_loop hn hn60 (Z := Z) (a := a) (b := b) (c := c) (Q := Q) m2 (k + 1) (s_evc a b c (F 6 k) st) (upd f st.tail.length 1) (some (.int (F 6 k))) (by omega) (by omega) hz H
          rw [e0, nI_succ k] at g
          have e3 : upd N 25 (nI ((1 :: st.tail)).length) = (upd (upd (upd N 25 (nI st.length)) 25 (nI st.tail.length)) 25 (nI (1 :: st.tail).length)) := by rw [zz_uu, zz_uu]
          have e2 : va_up F 25 (upd f st.tail.length 1) = (va_up (va_up F 25 f) 25 (upd f st.tail.length 1)) := by rw [px_up_up]
          rw [e3, e2] at g
          exact g
      · skip
        by_cases c3 : (F 6 k) = (-3)
        · refine px_PW.at (pc' := 94) (show px_lk [((-33), 106), ((-3), 94), ((-2), 83), ((-1), 72)] 134 ((F 6 k) : Int32).toInt = 94 by rw [c3]; rfl) ?_
          refine px_PW.steps kt_22.2 3 rfl ?_
          refine px_PW.callV kt_22.2 rfl rfl rfl rfl (nb_pushS (N := (upd N 25 (nI st.length))) (q := 25) (l := st) (by decide) rfl (by have := hl; show _ < 60; first | omega | (simp only [List.length_tail]; omega)) _) (by decide) (fun v h1 q => ?_)
          obtain ⟨rfl, rfl⟩ := q
          refine px_PW.steps kt_22.2 3 rfl ?_
          have e0 : s_evc a b c (F 6 k) st = (c :: st) := (if_neg c1).trans (if_pos c3)
          have hl2 := s_evc_len a b c (F 6 k) st
          have hz : zz_st (upd f st.length c) (s_evc a b c (F 6 k) st) := by rw [e0]; exact (zz_st_push hs)
          have g := c_val6_loop hn hn60 (Z := Z) (a := a) (b := b) (c := c) (Q := Q) m2 (k + 1) (s_evc a b c (F 6 k) st) (upd f st.length c) (some (.int (F 6 k))) (by omega) (by omega) hz H
          rw [e0, nI_succ k] at g
          have e3 : upd N 25 (nI ((c :: st)).length) = (upd (upd N 25 (nI st.length)) 25 (nI (c :: st).length)) := by rw [zz_uu]
          have e2 : va_up F 25 (upd f st.length c) = (va_up (va_up F 25 f) 25 (upd f st.length c)) := by rw [px_up_up]
          rw [e3, e2] at g
          exact g
        · skip
          by_cases c4 : (F 6 k) = (-2)
          · refine px_PW.at (pc' := 83) (show px_lk [((-33), 106), ((-3), 94), ((-2), 83), ((-1), 72)] 134 ((F 6 k) : Int32).toInt = 83 by rw [c4]; rfl) ?_
            refine px_PW.steps kt_22.2 3 rfl ?_
            refine px_PW.callV kt_22.2 rfl rfl rfl rfl (nb_pushS (N := (upd N 25 (nI st.length))) (q := 25) (l := st) (by decide) rfl (by have := hl; show _ < 60; first | omega | (simp only [List.length_tail]; omega)) _) (by decide) (fun v h1 q => ?_)
            obtain ⟨rfl, rfl⟩ := q
            refine px_PW.steps kt_22.2 3 rfl ?_
            have e0 : s_evc a b c (F 6 k) st = (b :: st) := (if_neg c1).trans ((if_neg c3).trans (if_pos c4))
            have hl2 := s_evc_len a b c (F 6 k) st
            have hz : zz_st (upd f st.length b) (s_evc a b c (F 6 k) st) := by rw [e0]; exact (zz_st_push hs)
            have g := c_val6_loop hn hn60 (Z := Z) (a := a) (b := b) (c := c) (Q := Q) m2 (k + 1) (s_evc a b c (F 6 k) st) (upd f st.length b) (some (.int (F 6 k))) (by omega) (by omega) hz H
            rw [e0, nI_succ k] at g
            have e3 : upd N 25 (nI ((b :: st)).length) = (upd (upd N 25 (nI st.length)) 25 (nI (b :: st).length)) := by rw [zz_uu]
            have e2 : va_up F 25 (upd f st.length b) = (va_up (va_up F 25 f) 25 (upd f st.length b)) := by rw [px_up_up]
            rw [e3, e2] at g
            exact g
          · skip
            by_cases c5 : (F 6 k) = (-1)
            · refine px_PW.at (pc' := 72) (show px_lk [((-33), 106), ((-3), 94), ((-2), 83), ((-1), 72)] 134 ((F 6 k) : Int32).toInt = 72 by rw [c5]; rfl) ?_
              refine px_PW.steps kt_22.2 3 rfl ?_
              refine px_PW.callV kt_22.2 rfl rfl rfl rfl (nb_pushS (N := (upd N 25 (nI st.length))) (q := 25) (l := st) (by decide) rfl (by have := hl; show _ < 60; first | omega | (simp only [List.length_tail]; omega)) _) (by decide) (fun v h1 q => ?_)
              obtain ⟨rfl, rfl⟩ := q
              refine px_PW.steps kt_22.2 3 rfl ?_
              have e0 : s_evc a b c (F 6 k) st = (a :: st) := (if_neg c1).trans ((if_neg c3).trans ((if_neg c4).trans (if_pos c5)))
              have hl2 := s_evc_len a b c (F 6 k) st
              have hz : zz_st (upd f st.length a) (s_evc a b c (F 6 k) st) := by rw [e0]; exact (zz_st_push hs)
              have g := c_val6_loop hn hn60 (Z := Z) (a := a) (b := b) (c := c) (Q := Q) m2 (k + 1) (s_evc a b c (F 6 k) st) (upd f st.length a) (some (.int (F 6 k))) (by omega) (by omega) hz H
              rw [e0, nI_succ k] at g
              have e3 : upd N 25 (nI ((a :: st)).length) = (upd (upd N 25 (nI st.length)) 25 (nI (a :: st).length)) := by rw [zz_uu]
              have e2 : va_up F 25 (upd f st.length a) = (va_up (va_up F 25 f) 25 (upd f st.length a)) := by rw [px_up_up]
              rw [e3, e2] at g
              exact g
            · skip
              refine px_PW.at (px_swd_22_29 c1 c3 c4 c5) ?_
              refine px_PW.steps kt_22.2 4 rfl ?_
              refine px_PW.br (fun c6 => ?_) (fun c6 => ?_)
              · have c6 : (F 6 k) < 0 := of_decide_eq_true c6
                refine px_PW.steps kt_22.2 3 rfl ?_
                refine px_PW.callV kt_22.2 rfl rfl rfl rfl (cv_join (N := (upd N 25 (nI st.length))) (st := st) rfl (by have := hl; omega) hs _) (by decide) (fun v h1 q => ?_)
                obtain ⟨rfl, rfl⟩ := q
                refine px_PW.callV kt_22.2 rfl rfl rfl rfl (nb_pushS (N := (upd (upd N 25 (nI st.length)) 25 (nI st.tail.tail.length))) (q := 25) (l := st.tail.tail) (by decide) rfl (by have := hl; show _ < 60; first | omega | (simp only [List.length_tail]; omega)) _) (by decide) (fun v h1 q => ?_)
                obtain ⟨rfl, rfl⟩ := q
                refine px_PW.steps kt_22.2 2 rfl ?_
                have e0 : s_evc a b c (F 6 k) st = ((s_join (-(F 6 k)) (st.headD 0) (st.tail.headD 0)) :: st.tail.tail) := (if_neg c1).trans ((if_neg c3).trans ((if_neg c4).trans ((if_neg c5).trans (if_pos c6))))
                have hl2 := s_evc_len a b c (F 6 k) st
                have hz : zz_st (upd f st.tail.tail.length (s_join (-(F 6 k)) (st.headD 0) (st.tail.headD 0))) (s_evc a b c (F 6 k) st) := by rw [e0]; exact (zz_st_push (zz_st_tail (zz_st_tail hs)))
                have g := c_val6_loop hn hn60 (Z := Z) (a := a) (b := b) (c := c) (Q := Q) m2 (k + 1) (s_evc a b c (F 6 k) st) (upd f st.tail.tail.length (s_join (-(F 6 k)) (st.headD 0) (st.tail.headD 0))) (some (.int (F 6 k))) (by omega) (by omega) hz H
                rw [e0, nI_succ k] at g
                have e3 : upd N 25 (nI (((s_join (-(F 6 k)) (st.headD 0) (st.tail.headD 0)) :: st.tail.tail)).length) = (upd (upd (upd N 25 (nI st.length)) 25 (nI st.tail.tail.length)) 25 (nI ((s_join (-(F 6 k)) (st.headD 0) (st.tail.headD 0)) :: st.tail.tail).length)) := by rw [zz_uu, zz_uu]
                have e2 : va_up F 25 (upd f st.tail.tail.length (s_join (-(F 6 k)) (st.headD 0) (st.tail.headD 0))) = (va_up (va_up F 25 f) 25 (upd f st.tail.tail.length (s_join (-(F 6 k)) (st.headD 0) (st.tail.headD 0)))) := by rw [px_up_up]
                rw [e3, e2] at g
                exact g
              · have c6 : ¬ ((F 6 k) < 0) := of_decide_eq_false c6
                refine px_PW.steps kt_22.2 2 rfl ?_
                refine px_PW.callV kt_22.2 rfl rfl rfl rfl (nb_pushS (N := (upd N 25 (nI st.length))) (q := 25) (l := st) (by decide) rfl (by have := hl; show _ < 60; first | omega | (simp only [List.length_tail]; omega)) _) (by decide) (fun v h1 q => ?_)
                obtain ⟨rfl, rfl⟩ := q
                refine px_PW.steps kt_22.2 2 rfl ?_
                have e0 : s_evc a b c (F 6 k) st = ((F 6 k) :: st) := (if_neg c1).trans ((if_neg c3).trans ((if_neg c4).trans ((if_neg c5).trans (if_neg c6))))
                have hl2 := s_evc_len a b c (F 6 k) st
                have hz : zz_st (upd f st.length (F 6 k)) (s_evc a b c (F 6 k) st) := by rw [e0]; exact (zz_st_push hs)
                have g := c_val6_loop hn hn60 (Z := Z) (a := a) (b := b) (c := c) (Q := Q) m2 (k + 1) (s_evc a b c (F 6 k) st) (upd f st.length (F 6 k)) (some (.int (F 6 k))) (by omega) (by omega) hz H
                rw [e0, nI_succ k] at g
                have e3 : upd N 25 (nI (((F 6 k) :: st)).length) = (upd (upd N 25 (nI st.length)) 25 (nI ((F 6 k) :: st).length)) := by rw [zz_uu]
                have e2 : va_up F 25 (upd f st.length (F 6 k)) = (va_up (va_up F 25 f) 25 (upd f st.length (F 6 k))) := by rw [px_up_up]
                rw [e3, e2] at g
                exact g
theorem cv_val6 {Z N : Nat → Int32} {F : Nat → Nat → Int32} {n : Nat} (hn : N 6 = nI n) (hn60 : n ≤ 60) (a b c : Int32) : px_PM 3 22 [.ref 60, .ref 14, .int a, .int b, .int c] (px_CH Z N F, []) (fun r h' => r = some (.int ((s_evs (F 6) a b c n 0 []).headD 0)) ∧ ∃ (e : Nat) (g : Nat → Int32), e ≤ 60 ∧ h' = (px_CH Z (upd N 25 (nI e)) (va_up F 25 g), [])) := by
  refine px_PM.start (nL := 7) (code := pc_22) rfl rfl ?_
  refine px_PW.steps kt_22.2 2 rfl ?_
  refine px_PW.callV kt_22.2 rfl rfl rfl rfl (nb_clear (q := 25) (by decide)) (by decide) (fun v h1 q => ?_)
  obtain ⟨rfl, rfl⟩ := q
  refine px_PW.steps kt_22.2 2 rfl ?_
  refine px_PW.hp (h' := (px_CH Z (upd N 25 (nI ([] : List Int32).length)) (va_up F 25 (F 25)), [])) (by rw [px_up_id]; rfl) ?_
  refine c_val6_loop hn hn60 n 0 [] (F 25) none (by omega) (Nat.le_refl 0) trivial (fun g o6 hle hg => ?_)
  refine px_PW.steps kt_22.2 2 rfl ?_
  refine px_PW.callV kt_22.2 rfl rfl rfl rfl (nb_popS (N := upd N 25 (nI (s_evs (F 6) a b c n 0 []).length)) (q := 25) (l := s_evs (F 6) a b c n 0 []) (by decide) rfl hle hg) (by decide) (fun v h1 q => ?_)
  obtain ⟨rfl, rfl⟩ := q
  refine px_PW.ret kt_22.2 rfl rfl ?_
  exact ⟨rfl, (s_evs (F 6) a b c n 0 []).tail.length, g, by rw [List.length_tail]; omega, by rw [zz_uu]⟩
theorem c_val7_loop {Z N : Nat → Int32} {F : Nat → Nat → Int32} {n : Nat} (hn : N 7 = nI n) (hn60 : n ≤ 60) {a b c : Int32} {Q : Option Value → px_H → Prop} : ∀ (m k : Nat) (st : List Int32) (f : Nat → Int32) (o6 : Option Value), k + m = n → st.length ≤ k → zz_st f st → (∀ (g : Nat → Int32) (o6 : Option Value), (s_evs (F 7) a b c m k st).length ≤ 60 → zz_st g (s_evs (F 7) a b c m k st) → px_PW 2 pc_22 Q 164 [some (.ref 60), some (.ref 16), some (.int a), some (.int b), some (.int c), some (.int (nI n)), o6] [] (px_CH Z (upd N 25 (nI (s_evs (F 7) a b c m k st).length)) (va_up F 25 g), [])) → px_PW 2 pc_22 Q 10 [some (.ref 60), some (.ref 16), some (.int a), some (.int b), some (.int c), some (.int (nI k)), o6] [] (px_CH Z (upd N 25 (nI st.length)) (va_up F 25 f), [])
  | m, k, st, f, o6, hk, hl, hs, H => by
    refine px_PW.steps kt_22.2 2 rfl ?_
    refine px_PW.callV kt_22.2 rfl rfl rfl rfl (nb_size (q := 7) (by decide)) (by decide) (fun v h1 q => ?_)
    obtain ⟨rfl, rfl⟩ := q
    rw [show upd N 25 (nI st.length) 7 = nI n from hn]
    refine px_PW.steps kt_22.2 1 rfl ?_
    refine px_PW.br (fun c0 => ?_) (fun c0 => ?_)
    · have c0 : (nI n) ≤ (nI k) := of_decide_eq_true c0
      have c0 : n ≤ k := (nI_leI (a := n) (b := k) (by omega) (by omega)).mp c0
      obtain rfl : m = 0 := by omega
      obtain rfl : k = n := by omega
      exact H f _ (by show st.length ≤ 60; omega) hs
    · have c0 : ¬ ((nI n) ≤ (nI k)) := of_decide_eq_false c0
      have c0 : ¬ (n ≤ k) := fun q => c0 ((nI_leI (a := n) (b := k) (by omega) (by omega)).mpr q)
      obtain ⟨m2, rfl⟩ : ∃ m2, m = m2 + 1 := ⟨m - 1, by omega⟩
      refine px_PW.steps kt_22.2 2 rfl ?_
      refine px_PW.callV kt_22.2 rfl rfl rfl rfl (nb_getN (q := 7) (n := k) (L := n) (by decide) hn (show n ≤ px_lim 7 from hn60) (by omega)) (by decide) (fun v h1 q => ?_)
      obtain ⟨rfl, rfl⟩ := q
      refine px_PW.steps kt_22.2 3 rfl ?_
      by_cases c1 : (F 7 k) = (-33)
      · refine px_PW.at (pc' := 106) (show px_lk [((-33), 106), ((-3), 94), ((-2), 83), ((-1), 72)] 134 ((F 7 k) : Int32).toInt = 106 by rw [c1]; rfl) ?_
        refine px_PW.steps kt_22.2 4 rfl ?_
        refine px_PW.callV kt_22.2 rfl rfl rfl rfl (nb_popS (N := (upd N 25 (nI st.length))) (q := 25) (l := st) (by decide) rfl (by have := hl; show _ ≤ 60; first | omega | (simp only [List.length_tail]; omega)) hs) (by decide) (fun v h1 q => ?_)
        obtain ⟨rfl, rfl⟩ := q
        refine px_PW.steps kt_22.2 1 rfl ?_
        refine px_PW.br (fun c2 => ?_) (fun c2 => ?_)
        · have c2 : ¬ ((st.headD 0) = 0) := of_decide_eq_false (px_nt c2)
          refine px_PW.steps kt_22.2 1 rfl ?_
          refine px_PW.callS kt_22.2 rfl rfl rfl (cc_truth _ _) (by decide) (fun v h1 q => ?_)
          obtain ⟨rfl, rfl⟩ := q
          refine px_PW.callV kt_22.2 rfl rfl rfl rfl (nb_pushS (N := (upd (upd N 25 (nI st.length)) 25 (nI st.tail.length))) (q := 25) (l := st.tail) (by decide) rfl (by have := hl; show _ < 60; first | omega | (simp only [List.length_tail]; omega)) _) (by decide) (fun v h1 q => ?_)
          obtain ⟨rfl, rfl⟩ := q
          refine px_PW.steps kt_22.2 3 rfl ?_
          have e0 : s_evc a b c (F 7 k) st = (0 :: st.tail) := (if_pos c1).trans (congrArg (fun z : Int32 => z :: st.tail) (if_neg c2))
          have hl2 := s_evc_len a b c (F 7 k) st
          have hz : zz_st (upd f st.tail.length 0) (s_evc a b c (F 7 k) st) := by rw [e0]; exact (zz_st_push (zz_st_tail hs))
          have g := c_val7_loop hn hn60 (Z := Z) (a := a) (b := b) (c := c) (Q := Q) m2 (k + 1) (s_evc a b c (F 7 k) st) (upd f st.tail.length 0) (some (.int (F 7 k))) (by omega) (by omega) hz H
          rw [e0, nI_succ k] at g
          have e3 : upd N 25 (nI ((0 :: st.tail)).length) = (upd (upd (upd N 25 (nI st.length)) 25 (nI st.tail.length)) 25 (nI (0 :: st.tail).length)) := by rw [zz_uu, zz_uu]
          have e2 : va_up F 25 (upd f st.tail.length 0) = (va_up (va_up F 25 f) 25 (upd f st.tail.length 0)) := by rw [px_up_up]
          rw [e3, e2] at g
          exact g
        · have c2 : (st.headD 0) = 0 := of_decide_eq_true (px_nf c2)
          refine px_PW.steps kt_22.2 2 rfl ?_
          refine px_PW.callS kt_22.2 rfl rfl rfl (cc_truth _ _) (by decide) (fun v h1 q => ?_)
          obtain ⟨rfl, rfl⟩ := q
          refine px_PW.callV kt_22.2 rfl rfl rfl rfl (nb_pushS (N := (upd (upd N 25 (nI st.length)) 25 (nI st.tail.length))) (q := 25) (l := st.tail) (by decide) rfl (by have := hl; show _ < 60; first | omega | (simp only [List.length_tail]; omega)) _) (by decide) (fun v h1 q => ?_)
          obtain ⟨rfl, rfl⟩ := q
          refine px_PW.steps kt_22.2 3 rfl ?_
          have e0 : s_evc a b c (F 7 k) st = (1 :: st.tail) := (if_pos c1).trans (congrArg (fun z : Int32 => z :: st.tail) (if_pos c2))
          have hl2 := s_evc_len a b c (F 7 k) st
          have hz : zz_st (upd f st.tail.length 1) (s_evc a b c (F 7 k) st) := by rw [e0]; exact (zz_st_push (zz_st_tail hs))
          have g := c_val7_loop hn hn60 (Z := Z) (a := a) (b := b) (c := c) (Q := Q) m2 (k + 1) (s_evc a b c (F 7 k) st) (upd f st.tail.length 1) (some (.int (F 7 k))) (by omega) (by omega) hz H
          rw [e0, nI_succ k] at g
          have e3 : upd N 25 (nI ((1 :: st.tail)).length) = (upd (upd (upd N 25 (nI st.length)) 25 (nI st.tail.length)) 25 (nI (1 :: st.tail).length)) := by rw [zz_uu, zz_uu]
          have e2 : va_up F 25 (upd f st.tail.length 1) = (va_up (va_up F 25 f) 25 (upd f st.tail.length 1)) := by rw [px_up_up]
          rw [e3, e2] at g
          exact g
      · skip
        by_cases c3 : (F 7 k) = (-3)
        · refine px_PW.at (pc' := 94) (show px_lk [((-33), 106), ((-3), 94), ((-2), 83), ((-1), 72)] 134 ((F 7 k) : Int32).toInt = 94 by rw [c3]; rfl) ?_
          refine px_PW.steps kt_22.2 3 rfl ?_
          refine px_PW.callV kt_22.2 rfl rfl rfl rfl (nb_pushS (N := (upd N 25 (nI st.length))) (q := 25) (l := st) (by decide) rfl (by have := hl; show _ < 60; first | omega | (simp only [List.length_tail]; omega)) _) (by decide) (fun v h1 q => ?_)
          obtain ⟨rfl, rfl⟩ := q
          refine px_PW.steps kt_22.2 3 rfl ?_
          have e0 : s_evc a b c (F 7 k) st = (c :: st) := (if_neg c1).trans (if_pos c3)
          have hl2 := s_evc_len a b c (F 7 k) st
          have hz : zz_st (upd f st.length c) (s_evc a b c (F 7 k) st) := by rw [e0]; exact (zz_st_push hs)
          have g := c_val7_loop hn hn60 (Z := Z) (a := a) (b := b) (c := c) (Q := Q) m2 (k + 1) (s_evc a b c (F 7 k) st) (upd f st.length c) (some (.int (F 7 k))) (by omega) (by omega) hz H
          rw [e0, nI_succ k] at g
          have e3 : upd N 25 (nI ((c :: st)).length) = (upd (upd N 25 (nI st.length)) 25 (nI (c :: st).length)) := by rw [zz_uu]
          have e2 : va_up F 25 (upd f st.length c) = (va_up (va_up F 25 f) 25 (upd f st.length c)) := by rw [px_up_up]
          rw [e3, e2] at g
          exact g
        · skip
          by_cases c4 : (F 7 k) = (-2)
          · refine px_PW.at (pc' := 83) (show px_lk [((-33), 106), ((-3), 94), ((-2), 83), ((-1), 72)] 134 ((F 7 k) : Int32).toInt = 83 by rw [c4]; rfl) ?_
            refine px_PW.steps kt_22.2 3 rfl ?_
            refine px_PW.callV kt_22.2 rfl rfl rfl rfl (nb_pushS (N := (upd N 25 (nI st.length))) (q := 25) (l := st) (by decide) rfl (by have := hl; show _ < 60; first | omega | (simp only [List.length_tail]; omega)) _) (by decide) (fun v h1 q => ?_)
            obtain ⟨rfl, rfl⟩ := q
            refine px_PW.steps kt_22.2 3 rfl ?_
            have e0 : s_evc a b c (F 7 k) st = (b :: st) := (if_neg c1).trans ((if_neg c3).trans (if_pos c4))
            have hl2 := s_evc_len a b c (F 7 k) st
            have hz : zz_st (upd f st.length b) (s_evc a b c (F 7 k) st) := by rw [e0]; exact (zz_st_push hs)
            have g := c_val7_loop hn hn60 (Z := Z) (a := a) (b := b) (c := c) (Q := Q) m2 (k + 1) (s_evc a b c (F 7 k) st) (upd f st.length b) (some (.int (F 7 k))) (by omega) (by omega) hz H
            rw [e0, nI_succ k] at g
            have e3 : upd N 25 (nI ((b :: st)).length) = (upd (upd N 25 (nI st.length)) 25 (nI (b :: st).length)) := by rw [zz_uu]
            have e2 : va_up F 25 (upd f st.length b) = (va_up (va_up F 25 f) 25 (upd f st.length b)) := by rw [px_up_up]
            rw [e3, e2] at g
            exact g
          · skip
            by_cases c5 : (F 7 k) = (-1)
            · refine px_PW.at (pc' := 72) (show px_lk [((-33), 106), ((-3), 94), ((-2), 83), ((-1), 72)] 134 ((F 7 k) : Int32).toInt = 72 by rw [c5]; rfl) ?_
              refine px_PW.steps kt_22.2 3 rfl ?_
              refine px_PW.callV kt_22.2 rfl rfl rfl rfl (nb_pushS (N := (upd N 25 (nI st.length))) (q := 25) (l := st) (by decide) rfl (by have := hl; show _ < 60; first | omega | (simp only [List.length_tail]; omega)) _) (by decide) (fun v h1 q => ?_)
              obtain ⟨rfl, rfl⟩ := q
              refine px_PW.steps kt_22.2 3 rfl ?_
              have e0 : s_evc a b c (F 7 k) st = (a :: st) := (if_neg c1).trans ((if_neg c3).trans ((if_neg c4).trans (if_pos c5)))
              have hl2 := s_evc_len a b c (F 7 k) st
              have hz : zz_st (upd f st.length a) (s_evc a b c (F 7 k) st) := by rw [e0]; exact (zz_st_push hs)
              have g := c_val7_loop hn hn60 (Z := Z) (a := a) (b := b) (c := c) (Q := Q) m2 (k + 1) (s_evc a b c (F 7 k) st) (upd f st.length a) (some (.int (F 7 k))) (by omega) (by omega) hz H
              rw [e0, nI_succ k] at g
              have e3 : upd N 25 (nI ((a :: st)).length) = (upd (upd N 25 (nI st.length)) 25 (nI (a :: st).length)) := by rw [zz_uu]
              have e2 : va_up F 25 (upd f st.length a) = (va_up (va_up F 25 f) 25 (upd f st.length a)) := by rw [px_up_up]
              rw [e3, e2] at g
              exact g
            · skip
              refine px_PW.at (px_swd_22_29 c1 c3 c4 c5) ?_
              refine px_PW.steps kt_22.2 4 rfl ?_
              refine px_PW.br (fun c6 => ?_) (fun c6 => ?_)
              · have c6 : (F 7 k) < 0 := of_decide_eq_true c6
                refine px_PW.steps kt_22.2 3 rfl ?_
                refine px_PW.callV kt_22.2 rfl rfl rfl rfl (cv_join (N := (upd N 25 (nI st.length))) (st := st) rfl (by have := hl; omega) hs _) (by decide) (fun v h1 q => ?_)
                obtain ⟨rfl, rfl⟩ := q
                refine px_PW.callV kt_22.2 rfl rfl rfl rfl (nb_pushS (N := (upd (upd N 25 (nI st.length)) 25 (nI st.tail.tail.length))) (q := 25) (l := st.tail.tail) (by decide) rfl (by have := hl; show _ < 60; first | omega | (simp only [List.length_tail]; omega)) _) (by decide) (fun v h1 q => ?_)
                obtain ⟨rfl, rfl⟩ := q
                refine px_PW.steps kt_22.2 2 rfl ?_
                have e0 : s_evc a b c (F 7 k) st = ((s_join (-(F 7 k)) (st.headD 0) (st.tail.headD 0)) :: st.tail.tail) := (if_neg c1).trans ((if_neg c3).trans ((if_neg c4).trans ((if_neg c5).trans (if_pos c6))))
                have hl2 := s_evc_len a b c (F 7 k) st
                have hz : zz_st (upd f st.tail.tail.length (s_join (-(F 7 k)) (st.headD 0) (st.tail.headD 0))) (s_evc a b c (F 7 k) st) := by rw [e0]; exact (zz_st_push (zz_st_tail (zz_st_tail hs)))
                have g := c_val7_loop hn hn60 (Z := Z) (a := a) (b := b) (c := c) (Q := Q) m2 (k + 1) (s_evc a b c (F 7 k) st) (upd f st.tail.tail.length (s_join (-(F 7 k)) (st.headD 0) (st.tail.headD 0))) (some (.int (F 7 k))) (by omega) (by omega) hz H
                rw [e0, nI_succ k] at g
                have e3 : upd N 25 (nI (((s_join (-(F 7 k)) (st.headD 0) (st.tail.headD 0)) :: st.tail.tail)).length) = (upd (upd (upd N 25 (nI st.length)) 25 (nI st.tail.tail.length)) 25 (nI ((s_join (-(F 7 k)) (st.headD 0) (st.tail.headD 0)) :: st.tail.tail).length)) := by rw [zz_uu, zz_uu]
                have e2 : va_up F 25 (upd f st.tail.tail.length (s_join (-(F 7 k)) (st.headD 0) (st.tail.headD 0))) = (va_up (va_up F 25 f) 25 (upd f st.tail.tail.length (s_join (-(F 7 k)) (st.headD 0) (st.tail.headD 0)))) := by rw [px_up_up]
                rw [e3, e2] at g
                exact g
              · have c6 : ¬ ((F 7 k) < 0) := of_decide_eq_false c6
                refine px_PW.steps kt_22.2 2 rfl ?_
                refine px_PW.callV kt_22.2 rfl rfl rfl rfl (nb_pushS (N := (upd N 25 (nI st.length))) (q := 25) (l := st) (by decide) rfl (by have := hl; show _ < 60; first | omega | (simp only [List.length_tail]; omega)) _) (by decide) (fun v h1 q => ?_)
                obtain ⟨rfl, rfl⟩ := q
                refine px_PW.steps kt_22.2 2 rfl ?_
                have e0 : s_evc a b c (F 7 k) st = ((F 7 k) :: st) := (if_neg c1).trans ((if_neg c3).trans ((if_neg c4).trans ((if_neg c5).trans (if_neg c6))))
                have hl2 := s_evc_len a b c (F 7 k) st
                have hz : zz_st (upd f st.length (F 7 k)) (s_evc a b c (F 7 k) st) := by rw [e0]; exact (zz_st_push hs)
                have g := c_val7_loop hn hn60 (Z := Z) (a := a) (b := b) (c := c) (Q := Q) m2 (k + 1) (s_evc a b c (F 7 k) st) (upd f st.length (F 7 k)) (some (.int (F 7 k))) (by omega) (by omega) hz H
                rw [e0, nI_succ k] at g
                have e3 : upd N 25 (nI (((F 7 k) :: st)).length) = (upd (upd N 25 (nI st.length)) 25 (nI ((F 7 k) :: st).length)) := by rw [zz_uu]
                have e2 : va_up F 25 (upd f st.length (F 7 k)) = (va_up (va_up F 25 f) 25 (upd f st.length (F 7 k))) := by rw [px_up_up]
                rw [e3, e2] at g
                exact g
theorem cv_val7 {Z N : Nat → Int32} {F : Nat → Nat → Int32} {n : Nat} (hn : N 7 = nI n) (hn60 : n ≤ 60) (a b c : Int32) : px_PM 3 22 [.ref 60, .ref 16, .int a, .int b, .int c] (px_CH Z N F, []) (fun r h' => r = some (.int ((s_evs (F 7) a b c n 0 []).headD 0)) ∧ ∃ (e : Nat) (g : Nat → Int32), e ≤ 60 ∧ h' = (px_CH Z (upd N 25 (nI e)) (va_up F 25 g), [])) := by
  refine px_PM.start (nL := 7) (code := pc_22) rfl rfl ?_
  refine px_PW.steps kt_22.2 2 rfl ?_
  refine px_PW.callV kt_22.2 rfl rfl rfl rfl (nb_clear (q := 25) (by decide)) (by decide) (fun v h1 q => ?_)
  obtain ⟨rfl, rfl⟩ := q
  refine px_PW.steps kt_22.2 2 rfl ?_
  refine px_PW.hp (h' := (px_CH Z (upd N 25 (nI ([] : List Int32).length)) (va_up F 25 (F 25)), [])) (by rw [px_up_id]; rfl) ?_
  refine c_val7_loop hn hn60 n 0 [] (F 25) none (by omega) (Nat.le_refl 0) trivial (fun g o6 hle hg => ?_)
  refine px_PW.steps kt_22.2 2 rfl ?_
  refine px_PW.callV kt_22.2 rfl rfl rfl rfl (nb_popS (N := upd N 25 (nI (s_evs (F 7) a b c n 0 []).length)) (q := 25) (l := s_evs (F 7) a b c n 0 []) (by decide) rfl hle hg) (by decide) (fun v h1 q => ?_)
  obtain ⟨rfl, rfl⟩ := q
  refine px_PW.ret kt_22.2 rfl rfl ?_
  exact ⟨rfl, (s_evs (F 7) a b c n 0 []).tail.length, g, by rw [List.length_tail]; omega, by rw [zz_uu]⟩
