def s_bodyOf (kd vo : Int32) : Int32 := (if vo = 0 then (if kd = 1 then 20 else (if kd = 4 then 50 else (if kd = 6 then 70 else 10))) else (if vo = 1 then (if kd = 2 then 30 else (if kd = 5 then 60 else (if kd = 6 then 71 else 11))) else (if vo = 2 then (if kd = 4 then 51 else (if (3 : Int32) = 0 ∨ (3 : Int32) = kd ∨ (3 : Int32) = s_above kd then 40 else 12)) else (if (1 : Int32) = 0 ∨ (1 : Int32) = kd ∨ (1 : Int32) = s_above kd then 21 else 13))))
theorem px_swd_45_1 {x : Int32} (c0 : ¬ (x = 0)) (c1 : ¬ (x = 1)) (c2 : ¬ (x = 2)) : px_sw 0 [28, 71, 114] 146 x.toInt = 146 := by
  have d0 : ¬ (x.toInt = 0) := fun h => c0 (px_i_of h (by decide +kernel))
  have d1 : ¬ (x.toInt = 1) := fun h => c1 (px_i_of h (by decide +kernel))
  have d2 : ¬ (x.toInt = 2) := fun h => c2 (px_i_of h (by decide +kernel))
  exact px_sw_d (fun y h1 h2 => by
    have h1 : (0 : Int) ≤ y := h1
    have h2 : y < 3 := h2
    rcases (show y = 0 ∨ y = 1 ∨ y = 2 by omega) with rfl | rfl | rfl
    · exact Or.inl (fun h => d0 h)
    · exact Or.inl (fun h => d1 h)
    · exact Or.inl (fun h => d2 h))
theorem cv_bodyOf {Z N : Nat → Int32} {F : Nat → Nat → Int32} (vo : Int32) : px_PM 3 45 [.ref 63, .int vo] (px_CH Z N F, []) (fun r h' => r = some (.int (s_bodyOf (Z 18) vo)) ∧ h' = (px_CH Z N F, [])) := by
  refine px_PM.start (nL := 2) (code := pc_45) rfl rfl ?_
  refine px_PW.steps kt_45.2 2 rfl ?_
  by_cases c0 : vo = 0
  · refine px_PW.at (pc' := 28) (by rw [c0]; rfl) ?_
    refine px_PW.steps kt_45.2 4 rfl ?_
    refine px_PW.br (fun c1 => ?_) (fun c1 => ?_)
    · have c1 : ¬ ((Z 18) = 1) := of_decide_eq_false (px_nt c1)
      refine px_PW.steps kt_45.2 4 rfl ?_
      refine px_PW.br (fun c2 => ?_) (fun c2 => ?_)
      · have c2 : ¬ ((Z 18) = 4) := of_decide_eq_false (px_nt c2)
        refine px_PW.steps kt_45.2 4 rfl ?_
        refine px_PW.br (fun c3 => ?_) (fun c3 => ?_)
        · have c3 : ¬ ((Z 18) = 6) := of_decide_eq_false (px_nt c3)
          refine px_PW.steps kt_45.2 1 rfl ?_
          refine px_PW.ret kt_45.2 rfl rfl ?_
          exact ⟨congrArg (fun z => some (Value.int z)) (show s_bodyOf (Z 18) vo = 10 from (if_pos c0).trans ((if_neg c1).trans ((if_neg c2).trans (if_neg c3)))).symm, rfl⟩
        · have c3 : (Z 18) = 6 := of_decide_eq_true (px_nf c3)
          refine px_PW.steps kt_45.2 2 rfl ?_
          refine px_PW.ret kt_45.2 rfl rfl ?_
          exact ⟨congrArg (fun z => some (Value.int z)) (show s_bodyOf (Z 18) vo = 70 from (if_pos c0).trans ((if_neg c1).trans ((if_neg c2).trans (if_pos c3)))).symm, rfl⟩
      · have c2 : (Z 18) = 4 := of_decide_eq_true (px_nf c2)
        refine px_PW.steps kt_45.2 2 rfl ?_
        refine px_PW.ret kt_45.2 rfl rfl ?_
        exact ⟨congrArg (fun z => some (Value.int z)) (show s_bodyOf (Z 18) vo = 50 from (if_pos c0).trans ((if_neg c1).trans (if_pos c2))).symm, rfl⟩
    · have c1 : (Z 18) = 1 := of_decide_eq_true (px_nf c1)
      refine px_PW.steps kt_45.2 2 rfl ?_
      refine px_PW.ret kt_45.2 rfl rfl ?_
      exact ⟨congrArg (fun z => some (Value.int z)) (show s_bodyOf (Z 18) vo = 20 from (if_pos c0).trans (if_pos c1)).symm, rfl⟩
  · skip
    by_cases c4 : vo = 1
    · refine px_PW.at (pc' := 71) (by rw [c4]; rfl) ?_
      refine px_PW.steps kt_45.2 4 rfl ?_
      refine px_PW.br (fun c5 => ?_) (fun c5 => ?_)
      · have c5 : ¬ ((Z 18) = 2) := of_decide_eq_false (px_nt c5)
        refine px_PW.steps kt_45.2 4 rfl ?_
        refine px_PW.br (fun c6 => ?_) (fun c6 => ?_)
        · have c6 : ¬ ((Z 18) = 5) := of_decide_eq_false (px_nt c6)
          refine px_PW.steps kt_45.2 4 rfl ?_
          refine px_PW.br (fun c7 => ?_) (fun c7 => ?_)
          · have c7 : ¬ ((Z 18) = 6) := of_decide_eq_false (px_nt c7)
            refine px_PW.steps kt_45.2 1 rfl ?_
            refine px_PW.ret kt_45.2 rfl rfl ?_
            exact ⟨congrArg (fun z => some (Value.int z)) (show s_bodyOf (Z 18) vo = 11 from (if_neg c0).trans ((if_pos c4).trans ((if_neg c5).trans ((if_neg c6).trans (if_neg c7))))).symm, rfl⟩
          · have c7 : (Z 18) = 6 := of_decide_eq_true (px_nf c7)
            refine px_PW.steps kt_45.2 2 rfl ?_
            refine px_PW.ret kt_45.2 rfl rfl ?_
            exact ⟨congrArg (fun z => some (Value.int z)) (show s_bodyOf (Z 18) vo = 71 from (if_neg c0).trans ((if_pos c4).trans ((if_neg c5).trans ((if_neg c6).trans (if_pos c7))))).symm, rfl⟩
        · have c6 : (Z 18) = 5 := of_decide_eq_true (px_nf c6)
          refine px_PW.steps kt_45.2 2 rfl ?_
          refine px_PW.ret kt_45.2 rfl rfl ?_
          exact ⟨congrArg (fun z => some (Value.int z)) (show s_bodyOf (Z 18) vo = 60 from (if_neg c0).trans ((if_pos c4).trans ((if_neg c5).trans (if_pos c6)))).symm, rfl⟩
      · have c5 : (Z 18) = 2 := of_decide_eq_true (px_nf c5)
        refine px_PW.steps kt_45.2 2 rfl ?_
        refine px_PW.ret kt_45.2 rfl rfl ?_
        exact ⟨congrArg (fun z => some (Value.int z)) (show s_bodyOf (Z 18) vo = 30 from (if_neg c0).trans ((if_pos c4).trans (if_pos c5))).symm, rfl⟩
    · skip
      by_cases c8 : vo = 2
      · refine px_PW.at (pc' := 114) (by rw [c8]; rfl) ?_
        refine px_PW.steps kt_45.2 4 rfl ?_
        refine px_PW.br (fun c9 => ?_) (fun c9 => ?_)
        · have c9 : ¬ ((Z 18) = 4) := of_decide_eq_false (px_nt c9)
          refine px_PW.steps kt_45.2 3 rfl ?_
          refine px_PW.callS kt_45.2 rfl rfl rfl (cc_isOfKind _ _ _) (by decide) (fun v h1 q => ?_)
          obtain ⟨rfl, rfl⟩ := q
          refine px_PW.steps kt_45.2 1 rfl ?_
          refine px_PW.br (fun c10 => ?_) (fun c10 => ?_)
          · have c10 : ¬ ((3 : Int32) = 0 ∨ (3 : Int32) = (Z 18) ∨ (3 : Int32) = s_above (Z 18)) := px_b1z (of_decide_eq_true c10)
            refine px_PW.steps kt_45.2 1 rfl ?_
            refine px_PW.ret kt_45.2 rfl rfl ?_
            exact ⟨congrArg (fun z => some (Value.int z)) (show s_bodyOf (Z 18) vo = 12 from (if_neg c0).trans ((if_neg c4).trans ((if_pos c8).trans ((if_neg c9).trans (if_neg c10))))).symm, rfl⟩
          · have c10 : (3 : Int32) = 0 ∨ (3 : Int32) = (Z 18) ∨ (3 : Int32) = s_above (Z 18) := px_b1n (of_decide_eq_false c10)
            refine px_PW.steps kt_45.2 2 rfl ?_
            refine px_PW.ret kt_45.2 rfl rfl ?_
            exact ⟨congrArg (fun z => some (Value.int z)) (show s_bodyOf (Z 18) vo = 40 from (if_neg c0).trans ((if_neg c4).trans ((if_pos c8).trans ((if_neg c9).trans (if_pos c10))))).symm, rfl⟩
        · have c9 : (Z 18) = 4 := of_decide_eq_true (px_nf c9)
          refine px_PW.steps kt_45.2 2 rfl ?_
          refine px_PW.ret kt_45.2 rfl rfl ?_
          exact ⟨congrArg (fun z => some (Value.int z)) (show s_bodyOf (Z 18) vo = 51 from (if_neg c0).trans ((if_neg c4).trans ((if_pos c8).trans (if_pos c9)))).symm, rfl⟩
      · skip
        refine px_PW.at (px_swd_45_1 c0 c4 c8) ?_
        refine px_PW.steps kt_45.2 3 rfl ?_
        refine px_PW.callS kt_45.2 rfl rfl rfl (cc_isOfKind _ _ _) (by decide) (fun v h1 q => ?_)
        obtain ⟨rfl, rfl⟩ := q
        refine px_PW.steps kt_45.2 1 rfl ?_
        refine px_PW.br (fun c11 => ?_) (fun c11 => ?_)
        · have c11 : ¬ ((1 : Int32) = 0 ∨ (1 : Int32) = (Z 18) ∨ (1 : Int32) = s_above (Z 18)) := px_b1z (of_decide_eq_true c11)
          refine px_PW.steps kt_45.2 1 rfl ?_
          refine px_PW.ret kt_45.2 rfl rfl ?_
          exact ⟨congrArg (fun z => some (Value.int z)) (show s_bodyOf (Z 18) vo = 13 from (if_neg c0).trans ((if_neg c4).trans ((if_neg c8).trans (if_neg c11)))).symm, rfl⟩
        · have c11 : (1 : Int32) = 0 ∨ (1 : Int32) = (Z 18) ∨ (1 : Int32) = s_above (Z 18) := px_b1n (of_decide_eq_false c11)
          refine px_PW.steps kt_45.2 2 rfl ?_
          refine px_PW.ret kt_45.2 rfl rfl ?_
          exact ⟨congrArg (fun z => some (Value.int z)) (show s_bodyOf (Z 18) vo = 21 from (if_neg c0).trans ((if_neg c4).trans ((if_neg c8).trans (if_pos c11)))).symm, rfl⟩
def s_calledBy (kd bo : Int32) : Int32 := (if bo = 11 then (s_bodyOf kd 0) else (if bo = 12 then (s_bodyOf kd 1) else (if bo = 20 then 10 else (if bo = 21 then 13 else (if bo = 30 then 11 else (if bo = 40 then 12 else (if bo = 50 then 20 else (if bo = 51 then 12 else (if bo = 60 then 30 else (if bo = 71 then 11 else 0))))))))))
theorem px_swd_46_1 {x : Int32} (c0 : ¬ (x = 11)) (c1 : ¬ (x = 12)) (c2 : ¬ (x = 20)) (c3 : ¬ (x = 21)) (c4 : ¬ (x = 30)) (c5 : ¬ (x = 40)) (c6 : ¬ (x = 50)) (c7 : ¬ (x = 51)) (c8 : ¬ (x = 60)) (c9 : ¬ (x = 71)) : px_lk [(11, 92), (12, 98), (20, 104), (21, 107), (30, 110), (40, 113), (50, 116), (51, 113), (60, 119), (71, 110)] 122 x.toInt = 122 := by
  have d0 : ¬ (x.toInt = 11) := fun h => c0 (px_i_of h (by decide +kernel))
  have d1 : ¬ (x.toInt = 12) := fun h => c1 (px_i_of h (by decide +kernel))
  have d2 : ¬ (x.toInt = 20) := fun h => c2 (px_i_of h (by decide +kernel))
  have d3 : ¬ (x.toInt = 21) := fun h => c3 (px_i_of h (by decide +kernel))
  have d4 : ¬ (x.toInt = 30) := fun h => c4 (px_i_of h (by decide +kernel))
  have d5 : ¬ (x.toInt = 40) := fun h => c5 (px_i_of h (by decide +kernel))
  have d6 : ¬ (x.toInt = 50) := fun h => c6 (px_i_of h (by decide +kernel))
  have d7 : ¬ (x.toInt = 51) := fun h => c7 (px_i_of h (by decide +kernel))
  have d8 : ¬ (x.toInt = 60) := fun h => c8 (px_i_of h (by decide +kernel))
  have d9 : ¬ (x.toInt = 71) := fun h => c9 (px_i_of h (by decide +kernel))
  simp only [px_lk, decide_eq_false (fun h : (11 : Int) = x.toInt => d0 h.symm), decide_eq_false (fun h : (12 : Int) = x.toInt => d1 h.symm), decide_eq_false (fun h : (20 : Int) = x.toInt => d2 h.symm), decide_eq_false (fun h : (21 : Int) = x.toInt => d3 h.symm), decide_eq_false (fun h : (30 : Int) = x.toInt => d4 h.symm), decide_eq_false (fun h : (40 : Int) = x.toInt => d5 h.symm), decide_eq_false (fun h : (50 : Int) = x.toInt => d6 h.symm), decide_eq_false (fun h : (51 : Int) = x.toInt => d7 h.symm), decide_eq_false (fun h : (60 : Int) = x.toInt => d8 h.symm), decide_eq_false (fun h : (71 : Int) = x.toInt => d9 h.symm)]
  rfl
theorem cv_calledBy {Z N : Nat → Int32} {F : Nat → Nat → Int32} (bo : Int32) : px_PM 4 46 [.ref 63, .int bo] (px_CH Z N F, []) (fun r h' => r = some (.int (s_calledBy (Z 18) bo)) ∧ h' = (px_CH Z N F, [])) := by
  refine px_PM.start (nL := 2) (code := pc_46) rfl rfl ?_
  refine px_PW.steps kt_46.2 2 rfl ?_
  by_cases c0 : bo = 11
  · refine px_PW.at (pc' := 92) (by rw [c0]; rfl) ?_
    refine px_PW.steps kt_46.2 2 rfl ?_
    refine px_PW.callV kt_46.2 rfl rfl rfl rfl (cv_bodyOf _) (by decide) (fun v h1 q => ?_)
    obtain ⟨rfl, rfl⟩ := q
    refine px_PW.ret kt_46.2 rfl rfl ?_
    exact ⟨congrArg (fun z => some (Value.int z)) (show s_calledBy (Z 18) bo = (s_bodyOf (Z 18) 0) from if_pos c0).symm, rfl⟩
  · skip
    by_cases c1 : bo = 12
    · refine px_PW.at (pc' := 98) (by rw [c1]; rfl) ?_
      refine px_PW.steps kt_46.2 2 rfl ?_
      refine px_PW.callV kt_46.2 rfl rfl rfl rfl (cv_bodyOf _) (by decide) (fun v h1 q => ?_)
      obtain ⟨rfl, rfl⟩ := q
      refine px_PW.ret kt_46.2 rfl rfl ?_
      exact ⟨congrArg (fun z => some (Value.int z)) (show s_calledBy (Z 18) bo = (s_bodyOf (Z 18) 1) from (if_neg c0).trans (if_pos c1)).symm, rfl⟩
    · skip
      by_cases c2 : bo = 20
      · refine px_PW.at (pc' := 104) (by rw [c2]; rfl) ?_
        refine px_PW.steps kt_46.2 1 rfl ?_
        refine px_PW.ret kt_46.2 rfl rfl ?_
        exact ⟨congrArg (fun z => some (Value.int z)) (show s_calledBy (Z 18) bo = 10 from (if_neg c0).trans ((if_neg c1).trans (if_pos c2))).symm, rfl⟩
      · skip
        by_cases c3 : bo = 21
        · refine px_PW.at (pc' := 107) (by rw [c3]; rfl) ?_
          refine px_PW.steps kt_46.2 1 rfl ?_
          refine px_PW.ret kt_46.2 rfl rfl ?_
          exact ⟨congrArg (fun z => some (Value.int z)) (show s_calledBy (Z 18) bo = 13 from (if_neg c0).trans ((if_neg c1).trans ((if_neg c2).trans (if_pos c3)))).symm, rfl⟩
        · skip
          by_cases c4 : bo = 30
          · refine px_PW.at (pc' := 110) (by rw [c4]; rfl) ?_
            refine px_PW.steps kt_46.2 1 rfl ?_
            refine px_PW.ret kt_46.2 rfl rfl ?_
            exact ⟨congrArg (fun z => some (Value.int z)) (show s_calledBy (Z 18) bo = 11 from (if_neg c0).trans ((if_neg c1).trans ((if_neg c2).trans ((if_neg c3).trans (if_pos c4))))).symm, rfl⟩
          · skip
            by_cases c5 : bo = 40
            · refine px_PW.at (pc' := 113) (by rw [c5]; rfl) ?_
              refine px_PW.steps kt_46.2 1 rfl ?_
              refine px_PW.ret kt_46.2 rfl rfl ?_
              exact ⟨congrArg (fun z => some (Value.int z)) (show s_calledBy (Z 18) bo = 12 from (if_neg c0).trans ((if_neg c1).trans ((if_neg c2).trans ((if_neg c3).trans ((if_neg c4).trans (if_pos c5)))))).symm, rfl⟩
            · skip
              by_cases c6 : bo = 50
              · refine px_PW.at (pc' := 116) (by rw [c6]; rfl) ?_
                refine px_PW.steps kt_46.2 1 rfl ?_
                refine px_PW.ret kt_46.2 rfl rfl ?_
                exact ⟨congrArg (fun z => some (Value.int z)) (show s_calledBy (Z 18) bo = 20 from (if_neg c0).trans ((if_neg c1).trans ((if_neg c2).trans ((if_neg c3).trans ((if_neg c4).trans ((if_neg c5).trans (if_pos c6))))))).symm, rfl⟩
              · skip
                by_cases c7 : bo = 51
                · refine px_PW.at (pc' := 113) (by rw [c7]; rfl) ?_
                  refine px_PW.steps kt_46.2 1 rfl ?_
                  refine px_PW.ret kt_46.2 rfl rfl ?_
                  exact ⟨congrArg (fun z => some (Value.int z)) (show s_calledBy (Z 18) bo = 12 from (if_neg c0).trans ((if_neg c1).trans ((if_neg c2).trans ((if_neg c3).trans ((if_neg c4).trans ((if_neg c5).trans ((if_neg c6).trans (if_pos c7)))))))).symm, rfl⟩
                · skip
                  by_cases c8 : bo = 60
                  · refine px_PW.at (pc' := 119) (by rw [c8]; rfl) ?_
                    refine px_PW.steps kt_46.2 1 rfl ?_
                    refine px_PW.ret kt_46.2 rfl rfl ?_
                    exact ⟨congrArg (fun z => some (Value.int z)) (show s_calledBy (Z 18) bo = 30 from (if_neg c0).trans ((if_neg c1).trans ((if_neg c2).trans ((if_neg c3).trans ((if_neg c4).trans ((if_neg c5).trans ((if_neg c6).trans ((if_neg c7).trans (if_pos c8))))))))).symm, rfl⟩
                  · skip
                    by_cases c9 : bo = 71
                    · refine px_PW.at (pc' := 110) (by rw [c9]; rfl) ?_
                      refine px_PW.steps kt_46.2 1 rfl ?_
                      refine px_PW.ret kt_46.2 rfl rfl ?_
                      exact ⟨congrArg (fun z => some (Value.int z)) (show s_calledBy (Z 18) bo = 11 from (if_neg c0).trans ((if_neg c1).trans ((if_neg c2).trans ((if_neg c3).trans ((if_neg c4).trans ((if_neg c5).trans ((if_neg c6).trans ((if_neg c7).trans ((if_neg c8).trans (if_pos c9)))))))))).symm, rfl⟩
                    · skip
                      refine px_PW.at (px_swd_46_1 c0 c1 c2 c3 c4 c5 c6 c7 c8 c9) ?_
                      refine px_PW.steps kt_46.2 1 rfl ?_
                      refine px_PW.ret kt_46.2 rfl rfl ?_
                      exact ⟨congrArg (fun z => some (Value.int z)) (show s_calledBy (Z 18) bo = 0 from (if_neg c0).trans ((if_neg c1).trans ((if_neg c2).trans ((if_neg c3).trans ((if_neg c4).trans ((if_neg c5).trans ((if_neg c6).trans ((if_neg c7).trans ((if_neg c8).trans (if_neg c9)))))))))).symm, rfl⟩
def s_down (nu ma bo x : Int32) : Int32 := (if bo = 10 then (x + nu) else (if bo = 13 then (i_quo x (ma - nu)) else (if bo = 40 then (x / 2) else (if bo = 60 then (x + 1) else (if bo = 70 then 9 else x)))))
theorem px_swd_47_1 {x : Int32} (c0 : ¬ (x = 10)) (c1 : ¬ (x = 13)) (c2 : ¬ (x = 40)) (c3 : ¬ (x = 60)) (c4 : ¬ (x = 70)) : px_lk [(10, 52), (13, 59), (40, 73), (60, 77), (70, 81)] 84 x.toInt = 84 := by
  have d0 : ¬ (x.toInt = 10) := fun h => c0 (px_i_of h (by decide +kernel))
  have d1 : ¬ (x.toInt = 13) := fun h => c1 (px_i_of h (by decide +kernel))
  have d2 : ¬ (x.toInt = 40) := fun h => c2 (px_i_of h (by decide +kernel))
  have d3 : ¬ (x.toInt = 60) := fun h => c3 (px_i_of h (by decide +kernel))
  have d4 : ¬ (x.toInt = 70) := fun h => c4 (px_i_of h (by decide +kernel))
  simp only [px_lk, decide_eq_false (fun h : (10 : Int) = x.toInt => d0 h.symm), decide_eq_false (fun h : (13 : Int) = x.toInt => d1 h.symm), decide_eq_false (fun h : (40 : Int) = x.toInt => d2 h.symm), decide_eq_false (fun h : (60 : Int) = x.toInt => d3 h.symm), decide_eq_false (fun h : (70 : Int) = x.toInt => d4 h.symm)]
  rfl
theorem cv_down {Z N : Nat → Int32} {F : Nat → Nat → Int32} (bo x : Int32) : px_PM 2 47 [.ref 63, .int bo, .int x] (px_CH Z N F, []) (fun r h' => r = some (.int (s_down (Z 19) (Z 20) bo x)) ∧ h' = (px_CH Z N F, [])) := by
  refine px_PM.start (nL := 3) (code := pc_47) rfl rfl ?_
  refine px_PW.steps kt_47.2 2 rfl ?_
  by_cases c0 : bo = 10
  · refine px_PW.at (pc' := 52) (by rw [c0]; rfl) ?_
    refine px_PW.steps kt_47.2 4 rfl ?_
    refine px_PW.ret kt_47.2 rfl rfl ?_
    exact ⟨congrArg (fun z => some (Value.int z)) (show s_down (Z 19) (Z 20) bo x = (x + (Z 19)) from if_pos c0).symm, rfl⟩
  · skip
    by_cases c1 : bo = 13
    · refine px_PW.at (pc' := 59) (by rw [c1]; rfl) ?_
      refine px_PW.steps kt_47.2 6 rfl ?_
      refine px_PW.callS kt_47.2 rfl rfl rfl (cc_quot _ _ _) (by decide) (fun v h1 q => ?_)
      obtain ⟨rfl, rfl⟩ := q
      refine px_PW.ret kt_47.2 rfl rfl ?_
      exact ⟨congrArg (fun z => some (Value.int z)) (show s_down (Z 19) (Z 20) bo x = (i_quo x ((Z 20) - (Z 19))) from (if_neg c0).trans (if_pos c1)).symm, rfl⟩
    · skip
      by_cases c2 : bo = 40
      · refine px_PW.at (pc' := 73) (by rw [c2]; rfl) ?_
        refine px_PW.steps kt_47.2 3 rfl ?_
        refine px_PW.ret kt_47.2 rfl rfl ?_
        exact ⟨congrArg (fun z => some (Value.int z)) (show s_down (Z 19) (Z 20) bo x = (x / 2) from (if_neg c0).trans ((if_neg c1).trans (if_pos c2))).symm, rfl⟩
      · skip
        by_cases c3 : bo = 60
        · refine px_PW.at (pc' := 77) (by rw [c3]; rfl) ?_
          refine px_PW.steps kt_47.2 3 rfl ?_
          refine px_PW.ret kt_47.2 rfl rfl ?_
          exact ⟨congrArg (fun z => some (Value.int z)) (show s_down (Z 19) (Z 20) bo x = (x + 1) from (if_neg c0).trans ((if_neg c1).trans ((if_neg c2).trans (if_pos c3)))).symm, rfl⟩
        · skip
          by_cases c4 : bo = 70
          · refine px_PW.at (pc' := 81) (by rw [c4]; rfl) ?_
            refine px_PW.steps kt_47.2 1 rfl ?_
            refine px_PW.ret kt_47.2 rfl rfl ?_
            exact ⟨congrArg (fun z => some (Value.int z)) (show s_down (Z 19) (Z 20) bo x = 9 from (if_neg c0).trans ((if_neg c1).trans ((if_neg c2).trans ((if_neg c3).trans (if_pos c4))))).symm, rfl⟩
          · skip
            refine px_PW.at (px_swd_47_1 c0 c1 c2 c3 c4) ?_
            refine px_PW.steps kt_47.2 1 rfl ?_
            refine px_PW.ret kt_47.2 rfl rfl ?_
            exact ⟨congrArg (fun z => some (Value.int z)) (show s_down (Z 19) (Z 20) bo x = x from (if_neg c0).trans ((if_neg c1).trans ((if_neg c2).trans ((if_neg c3).trans (if_neg c4))))).symm, rfl⟩
def s_up (nu ma bo x : Int32) : Int32 := (if bo = 11 then (x * 2) else (if bo = 12 then (x - ma) else (if bo = 20 then (x - 4) else (if bo = 30 then (0 - x) else (if bo = 50 then (x * 3) else (if bo = 51 then (x ^^^ nu) else (if bo = 71 then (x + ma) else x)))))))
theorem px_swd_48_1 {x : Int32} (c0 : ¬ (x = 11)) (c1 : ¬ (x = 12)) (c2 : ¬ (x = 20)) (c3 : ¬ (x = 30)) (c4 : ¬ (x = 50)) (c5 : ¬ (x = 51)) (c6 : ¬ (x = 71)) : px_lk [(11, 68), (12, 72), (20, 79), (30, 83), (50, 87), (51, 91), (71, 98)] 105 x.toInt = 105 := by
  have d0 : ¬ (x.toInt = 11) := fun h => c0 (px_i_of h (by decide +kernel))
  have d1 : ¬ (x.toInt = 12) := fun h => c1 (px_i_of h (by decide +kernel))
  have d2 : ¬ (x.toInt = 20) := fun h => c2 (px_i_of h (by decide +kernel))
  have d3 : ¬ (x.toInt = 30) := fun h => c3 (px_i_of h (by decide +kernel))
  have d4 : ¬ (x.toInt = 50) := fun h => c4 (px_i_of h (by decide +kernel))
  have d5 : ¬ (x.toInt = 51) := fun h => c5 (px_i_of h (by decide +kernel))
  have d6 : ¬ (x.toInt = 71) := fun h => c6 (px_i_of h (by decide +kernel))
  simp only [px_lk, decide_eq_false (fun h : (11 : Int) = x.toInt => d0 h.symm), decide_eq_false (fun h : (12 : Int) = x.toInt => d1 h.symm), decide_eq_false (fun h : (20 : Int) = x.toInt => d2 h.symm), decide_eq_false (fun h : (30 : Int) = x.toInt => d3 h.symm), decide_eq_false (fun h : (50 : Int) = x.toInt => d4 h.symm), decide_eq_false (fun h : (51 : Int) = x.toInt => d5 h.symm), decide_eq_false (fun h : (71 : Int) = x.toInt => d6 h.symm)]
  rfl
theorem cv_up {Z N : Nat → Int32} {F : Nat → Nat → Int32} (bo x : Int32) : px_PM 1 48 [.ref 63, .int bo, .int x] (px_CH Z N F, []) (fun r h' => r = some (.int (s_up (Z 19) (Z 20) bo x)) ∧ h' = (px_CH Z N F, [])) := by
  refine px_PM.start (nL := 3) (code := pc_48) rfl rfl ?_
  refine px_PW.steps kt_48.2 2 rfl ?_
  by_cases c0 : bo = 11
  · refine px_PW.at (pc' := 68) (by rw [c0]; rfl) ?_
    refine px_PW.steps kt_48.2 3 rfl ?_
    refine px_PW.ret kt_48.2 rfl rfl ?_
    exact ⟨congrArg (fun z => some (Value.int z)) (show s_up (Z 19) (Z 20) bo x = (x * 2) from if_pos c0).symm, rfl⟩
  · skip
    by_cases c1 : bo = 12
    · refine px_PW.at (pc' := 72) (by rw [c1]; rfl) ?_
      refine px_PW.steps kt_48.2 4 rfl ?_
      refine px_PW.ret kt_48.2 rfl rfl ?_
      exact ⟨congrArg (fun z => some (Value.int z)) (show s_up (Z 19) (Z 20) bo x = (x - (Z 20)) from (if_neg c0).trans (if_pos c1)).symm, rfl⟩
    · skip
      by_cases c2 : bo = 20
      · refine px_PW.at (pc' := 79) (by rw [c2]; rfl) ?_
        refine px_PW.steps kt_48.2 3 rfl ?_
        refine px_PW.ret kt_48.2 rfl rfl ?_
        exact ⟨congrArg (fun z => some (Value.int z)) (show s_up (Z 19) (Z 20) bo x = (x - 4) from (if_neg c0).trans ((if_neg c1).trans (if_pos c2))).symm, rfl⟩
      · skip
        by_cases c3 : bo = 30
        · refine px_PW.at (pc' := 83) (by rw [c3]; rfl) ?_
          refine px_PW.steps kt_48.2 3 rfl ?_
          refine px_PW.ret kt_48.2 rfl rfl ?_
          exact ⟨congrArg (fun z => some (Value.int z)) (show s_up (Z 19) (Z 20) bo x = (0 - x) from (if_neg c0).trans ((if_neg c1).trans ((if_neg c2).trans (if_pos c3)))).symm, rfl⟩
        · skip
          by_cases c4 : bo = 50
          · refine px_PW.at (pc' := 87) (by rw [c4]; rfl) ?_
            refine px_PW.steps kt_48.2 3 rfl ?_
            refine px_PW.ret kt_48.2 rfl rfl ?_
            exact ⟨congrArg (fun z => some (Value.int z)) (show s_up (Z 19) (Z 20) bo x = (x * 3) from (if_neg c0).trans ((if_neg c1).trans ((if_neg c2).trans ((if_neg c3).trans (if_pos c4))))).symm, rfl⟩
          · skip
            by_cases c5 : bo = 51
            · refine px_PW.at (pc' := 91) (by rw [c5]; rfl) ?_
              refine px_PW.steps kt_48.2 4 rfl ?_
              refine px_PW.ret kt_48.2 rfl rfl ?_
              exact ⟨congrArg (fun z => some (Value.int z)) (show s_up (Z 19) (Z 20) bo x = (x ^^^ (Z 19)) from (if_neg c0).trans ((if_neg c1).trans ((if_neg c2).trans ((if_neg c3).trans ((if_neg c4).trans (if_pos c5)))))).symm, rfl⟩
            · skip
              by_cases c6 : bo = 71
              · refine px_PW.at (pc' := 98) (by rw [c6]; rfl) ?_
                refine px_PW.steps kt_48.2 4 rfl ?_
                refine px_PW.ret kt_48.2 rfl rfl ?_
                exact ⟨congrArg (fun z => some (Value.int z)) (show s_up (Z 19) (Z 20) bo x = (x + (Z 20)) from (if_neg c0).trans ((if_neg c1).trans ((if_neg c2).trans ((if_neg c3).trans ((if_neg c4).trans ((if_neg c5).trans (if_pos c6))))))).symm, rfl⟩
              · skip
                refine px_PW.at (px_swd_48_1 c0 c1 c2 c3 c4 c5 c6) ?_
                refine px_PW.steps kt_48.2 1 rfl ?_
                refine px_PW.ret kt_48.2 rfl rfl ?_
                exact ⟨congrArg (fun z => some (Value.int z)) (show s_up (Z 19) (Z 20) bo x = x from (if_neg c0).trans ((if_neg c1).trans ((if_neg c2).trans ((if_neg c3).trans ((if_neg c4).trans ((if_neg c5).trans (if_neg c6))))))).symm, rfl⟩
/-- the BODIES from one on, as one calls the next -/
def s_ch (kd : Int32) : Nat → Int32 → List Int32
  | 0, _ => []
  | m + 1, b => if b = 0 then [] else b :: s_ch kd m (s_calledBy kd b)
def s_dn (nu ma : Int32) : List Int32 → Int32 → Int32
  | [], x => x
  | b :: r, x => s_dn nu ma r (s_down nu ma b x)
def s_upl (nu ma : Int32) : List Int32 → Int32 → Int32
  | [], x => x
  | b :: r, x => s_up nu ma b (s_upl nu ma r x)
/-- a row holds a list from a place on -/
def zz_ls (f : Nat → Int32) : Nat → List Int32 → Prop
  | _, [] => True
  | i, v :: r => f i = v ∧ zz_ls f (i + 1) r
theorem zz_ls_snoc {f : Nat → Int32} : ∀ (i : Nat) (l : List Int32) (v : Int32), zz_ls f i l → zz_ls (upd f (i + l.length) v) i (l ++ [v])
  | i, [], v, _ => ⟨by simp [upd], trivial⟩
  | i, a :: r, v, h => by
    refine ⟨?_, ?_⟩
    · rw [px_upd_ne f v (by simp only [List.length_cons]; omega)]; exact h.1
    · have g := zz_ls_snoc (i + 1) r v h.2
      rw [show i + 1 + r.length = i + (a :: r).length by simp only [List.length_cons]; omega] at g
      exact g
theorem zz_ls_app {f : Nat → Int32} : ∀ (i : Nat) (l r : List Int32), zz_ls f i (l ++ r) → zz_ls f i l ∧ zz_ls f (i + l.length) r
  | i, [], r, h => ⟨trivial, h⟩
  | i, a :: l, r, h => by
    have g := zz_ls_app (i + 1) l r h.2
    refine ⟨⟨h.1, g.1⟩, ?_⟩
    rw [show i + (a :: l).length = i + 1 + l.length by simp only [List.length_cons]; omega]
    exact g.2
theorem s_dn_app (nu ma : Int32) : ∀ (l r : List Int32) (x : Int32), s_dn nu ma (l ++ r) x = s_dn nu ma r (s_dn nu ma l x)
  | [], _, _ => rfl
  | _ :: l, r, x => s_dn_app nu ma l r _
theorem s_upl_app (nu ma : Int32) : ∀ (l r : List Int32) (x : Int32), s_upl nu ma (l ++ r) x = s_upl nu ma l (s_upl nu ma r x)
  | [], _, _ => rfl
  | b :: l, r, x => congrArg (s_up nu ma b) (s_upl_app nu ma l r x)
theorem c_dn_loop {Z N : Nat → Int32} {F : Nat → Nat → Int32} {b : Nat} {f1 x0 : Int32} {Q : Option Value → px_H → Prop} : ∀ (m k : Nat) (bo x : Int32) (l : List Int32) (f : Nat → Int32), k + m = 30 → l.length = k → zz_ls f b l → b + k + (s_ch (Z 18) m bo).length ≤ 30 → (∀ (g : Nat → Int32) (o4 o6 : Option Value), zz_ls g b (l ++ s_ch (Z 18) m bo) → px_PW 4 pc_44 Q 62 [some (.ref 63), some (.int f1), some (.int x0), some (.int (nI b)), o4, some (.int (s_dn (Z 19) (Z 20) (s_ch (Z 18) m bo) x)), o6] [] (px_CH Z (upd N 26 (nI (b + k + (s_ch (Z 18) m bo).length))) (va_up F 26 g), [])) → px_PW 4 pc_44 Q 17 [some (.ref 63), some (.int f1), some (.int x0), some (.int (nI b)), some (.int bo), some (.int x), some (.int (nI k))] [] (px_CH Z (upd N 26 (nI (b + k))) (va_up F 26 f), [])
  | m, k, bo, x, l, f, hk, hl, hf, hlen, H => by
    refine px_PW.steps kt_44.2 3 rfl ?_
    refine px_PW.br (fun c0 => ?_) (fun c0 => ?_)
    · have c0 : 30 ≤ (nI k) := of_decide_eq_true c0
      have c0 : 30 ≤ k := (nI_leI (a := 30) (b := k) (by omega) (by omega)).mp c0
      obtain rfl : m = 0 := by omega
      have h := H f (some (.int bo)) (some (.int (nI k))) (by rw [show s_ch (Z 18) 0 bo = [] from rfl, List.append_nil]; exact hf)
      exact h
    · have c0 : ¬ (30 ≤ (nI k)) := of_decide_eq_false c0
      have c0 : ¬ (30 ≤ k) := fun q => c0 ((nI_leI (a := 30) (b := k) (by omega) (by omega)).mpr q)
      obtain ⟨m2, rfl⟩ : ∃ m2, m = m2 + 1 := ⟨m - 1, by omega⟩
      refine px_PW.steps kt_44.2 2 rfl ?_
      refine px_PW.br (fun c1 => ?_) (fun c1 => ?_)
      · have c1 : bo = 0 := of_decide_eq_true c1
        have e0 : s_ch (Z 18) (m2 + 1) bo = [] := if_pos c1
        rw [e0] at H
        have h := H f (some (.int bo)) (some (.int (nI k))) (by rw [List.append_nil]; exact hf)
        exact h
      · have c1 : ¬ (bo = 0) := of_decide_eq_false c1
        have e0 : s_ch (Z 18) (m2 + 1) bo = bo :: s_ch (Z 18) m2 (s_calledBy (Z 18) bo) := if_neg c1
        rw [e0, List.length_cons] at hlen
        refine px_PW.steps kt_44.2 3 rfl ?_
        refine px_PW.callV kt_44.2 rfl rfl rfl rfl (nb_addN (N := (upd N 26 (nI (b + k)))) (q := 26) (n := b + k) (by decide) rfl (show b + k < 30 by omega) _) (by decide) (fun v h1 q => ?_)
        obtain ⟨rfl, rfl⟩ := q
        refine px_PW.steps kt_44.2 3 rfl ?_
        refine px_PW.callV kt_44.2 rfl rfl rfl rfl (cv_down _ _) (by decide) (fun v h1 q => ?_)
        obtain ⟨rfl, rfl⟩ := q
        refine px_PW.steps kt_44.2 3 rfl ?_
        refine px_PW.callV kt_44.2 rfl rfl rfl rfl (cv_calledBy _) (by decide) (fun v h1 q => ?_)
        obtain ⟨rfl, rfl⟩ := q
        refine px_PW.steps kt_44.2 3 rfl ?_
        rw [e0] at H
        have g := c_dn_loop (b := b) (f1 := f1) (x0 := x0) (Q := Q) (Z := Z) (N := N) (F := F) m2 (k + 1) (s_calledBy (Z 18) bo) (s_down (Z 19) (Z 20) bo x) (l ++ [bo]) (upd f (b + k) bo) (by omega) (by simp [hl]) (by have h := zz_ls_snoc b l bo hf; rw [hl] at h; exact h) (by omega) (fun g o4 o6 hg => by
          have h := H g o4 o6 (by rw [List.append_assoc] at hg; exact hg)
          rw [List.length_cons, show b + k + ((s_ch (Z 18) m2 (s_calledBy (Z 18) bo)).length + 1) = b + (k + 1) + (s_ch (Z 18) m2 (s_calledBy (Z 18) bo)).length by omega] at h
          exact h)
        have e2 : va_up F 26 (upd f (b + k) bo) = (va_up (va_up F 26 f) 26 (upd f (b + k) bo)) := by rw [px_up_up]
        have e3 : upd N 26 (nI (b + (k + 1))) = (upd (upd N 26 (nI (b + k))) 26 (nI (b + k + 1))) := by rw [zz_uu]; rfl
        rw [e2, e3, nI_succ k] at g
        exact g
theorem c_up_loop {Z N : Nat → Int32} {F : Nat → Nat → Int32} {b E : Nat} (hE : N 26 = nI E) (hE30 : E ≤ 30) {f1 x0 : Int32} {Q : Option Value → px_H → Prop} : ∀ (n : Nat) (l : List Int32) (x : Int32) (i : Int32) (o4 : Option Value), l.length = n → i = nI (b + l.length) + -1 → b + l.length ≤ E → zz_ls (F 26) b l → (∀ o4 o6 : Option Value, px_PW 4 pc_44 Q 102 [some (.ref 63), some (.int f1), some (.int x0), some (.int (nI b)), o4, some (.int (s_upl (Z 19) (Z 20) l x)), o6] [] (px_CH Z N F, [])) → px_PW 4 pc_44 Q 73 [some (.ref 63), some (.int f1), some (.int x0), some (.int (nI b)), o4, some (.int x), some (.int i)] [] (px_CH Z N F, [])
  | n, l, x, i, o4, hn, hi, hlen, hf, H => by
    rcases List.eq_nil_or_concat l with rfl | ⟨p, v, rfl⟩
    · have hb : i < nI b := by
        rw [hi]
        simp only [List.length_nil, Nat.add_zero]
        cases b with
        | zero => decide
        | succ b => rw [zz_dec]; exact nI_lt (by omega) (by omega)
      refine px_PW.steps kt_44.2 3 rfl ?_
      refine px_PW.br (fun c0 => ?_) (fun c0 => ?_)
      · exact H _ _
      · exact absurd hb (of_decide_eq_false c0)
    · simp only [List.concat_eq_append] at *
      have hv := (zz_ls_app b p [v] hf).2.1
      have hp := (zz_ls_app b p [v] hf).1
      have hi2 : i = nI (b + p.length) := by rw [hi, show b + (p ++ [v]).length = (b + p.length) + 1 by simp only [List.length_append, List.length_singleton]; omega, zz_dec]
      subst hi2
      obtain ⟨n2, rfl⟩ : ∃ n2, n = n2 + 1 := ⟨p.length, by rw [← hn]; simp⟩
      refine px_PW.steps kt_44.2 3 rfl ?_
      refine px_PW.br (fun c0 => ?_) (fun c0 => ?_)
      · have c0 : (nI (b + p.length)) < (nI b) := of_decide_eq_true c0
        exact absurd c0 (nI_nlt (by omega) (by have := hlen; simp only [List.length_append, List.length_singleton] at this; omega))
      · have c0 : ¬ ((nI (b + p.length)) < (nI b)) := of_decide_eq_false c0
        refine px_PW.steps kt_44.2 4 rfl ?_
        refine px_PW.callV kt_44.2 rfl rfl rfl rfl (nb_getN (q := 26) (n := b + p.length) (L := E) (by decide) hE (show E ≤ px_lim 26 from hE30) (by have := hlen; simp only [List.length_append, List.length_singleton] at this; omega)) (by decide) (fun v h1 q => ?_)
        obtain ⟨rfl, rfl⟩ := q
        rw [hv]
        refine px_PW.steps kt_44.2 1 rfl ?_
        refine px_PW.callV kt_44.2 rfl rfl rfl rfl (cv_up _ _) (by decide) (fun v h1 q => ?_)
        obtain ⟨rfl, rfl⟩ := q
        refine px_PW.steps kt_44.2 3 rfl ?_
        exact c_up_loop hE hE30 (Q := Q) n2 p (s_up (Z 19) (Z 20) v x) _ _ (by simp at hn; omega) rfl (by have := hlen; simp only [List.length_append, List.length_singleton] at this; omega) hp (fun o4 o6 => by have h := H o4 o6; rw [s_upl_app] at h; exact h)
def s_chained (kd nu ma f1 x : Int32) : Int32 := s_upl nu ma (s_ch kd 30 f1) (s_dn nu ma (s_ch kd 30 f1) x)
theorem cv_chained {Z N : Nat → Int32} {F : Nat → Nat → Int32} {b : Nat} (hb : N 26 = nI b) (f1 x0 : Int32) (hlen : b + (s_ch (Z 18) 30 f1).length ≤ 30) : px_PM 5 44 [.ref 63, .int f1, .int x0] (px_CH Z N F, []) (fun r h' => r = some (.int (s_chained (Z 18) (Z 19) (Z 20) f1 x0)) ∧ ∃ g : Nat → Int32, h' = (px_CH Z (upd N 26 (nI (b + (s_ch (Z 18) 30 f1).length))) (va_up F 26 g), [])) := by
  refine px_PM.start (nL := 7) (code := pc_44) rfl rfl ?_
  refine px_PW.steps kt_44.2 2 rfl ?_
  refine px_PW.callV kt_44.2 rfl rfl rfl rfl (nb_size (q := 26) (by decide)) (by decide) (fun v h1 q => ?_)
  obtain ⟨rfl, rfl⟩ := q
  refine px_PW.steps kt_44.2 7 rfl ?_
  refine px_PW.hp (h' := (px_CH Z (upd N 26 (nI (b + 0))) (va_up F 26 (F 26)), [])) (by rw [Nat.add_zero, ← hb, zz_ui, px_up_id]) ?_
  refine px_PW.lc (lv' := [some (.ref 63), some (.int f1), some (.int x0), some (.int (nI b)), some (.int f1), some (.int x0), some (.int (nI 0))]) (by rw [← hb]; rfl) ?_
  refine c_dn_loop 30 0 f1 x0 [] (F 26) rfl rfl trivial (by rw [Nat.add_zero]; exact hlen) (fun g o4 o6 hg => ?_)
  rw [Nat.add_zero]
  refine px_PW.steps kt_44.2 2 rfl ?_
  refine px_PW.callV kt_44.2 rfl rfl rfl rfl (nb_size (q := 26) (by decide)) (by decide) (fun v h1 q => ?_)
  obtain ⟨rfl, rfl⟩ := q
  refine px_PW.steps kt_44.2 3 rfl ?_
  refine c_up_loop (N := upd N 26 (nI (b + (s_ch (Z 18) 30 f1).length))) (F := va_up F 26 g) (E := b + (s_ch (Z 18) 30 f1).length) rfl hlen _ (s_ch (Z 18) 30 f1) _ _ _ rfl (Int32.sub_eq_add_neg _ 1) (Nat.le_refl _) hg (fun o4 o6 => ?_)
  refine px_PW.steps kt_44.2 1 rfl ?_
  exact px_PW.ret kt_44.2 rfl rfl ⟨rfl, g, rfl⟩
theorem s_ch_len : ∀ k v : Nat, k < 7 → v < 4 → (s_ch (nI k) 30 (s_bodyOf (nI k) (nI v))).length ≤ 8 := by
  have h : ∀ k : Fin 7, ∀ v : Fin 4, (s_ch (nI k.1) 30 (s_bodyOf (nI k.1) (nI v.1))).length ≤ 8 := by decide +kernel
  exact fun k v hk hv => h ⟨k, hk⟩ ⟨v, hv⟩
def s_speak (kd nu ma vo x : Int32) : Int32 := if s_bodyOf kd vo = 21 then s_chained kd nu ma (s_bodyOf kd vo) x + s_chained kd nu ma (s_bodyOf kd 1) 1 else s_chained kd nu ma (s_bodyOf kd vo) x
theorem cv_speak {Z N : Nat → Int32} {F : Nat → Nat → Int32} {kd vo : Nat} (hkd : kd < 7) (hvo : vo < 4) (nu ma x : Int32) : px_PM 6 43 [.ref 63, .int (nI kd), .int nu, .int ma, .int (nI vo), .int x] (px_CH Z N F, []) (fun r h' => r = some (.int (s_speak (nI kd) nu ma (nI vo) x)) ∧ ∃ (Z' : Nat → Int32) (e : Nat) (g : Nat → Int32), Z' = upd (upd (upd Z 18 (nI kd)) 19 nu) 20 ma ∧ e ≤ 30 ∧ h' = (px_CH Z' (upd N 26 (nI e)) (va_up F 26 g), [])) := by
  refine px_PM.start (nL := 8) (code := pc_43) rfl rfl ?_
  refine px_PW.steps kt_43.2 2 rfl ?_
  refine px_op_18 kt_43.2 rfl ?_
  refine px_PW.steps kt_43.2 2 rfl ?_
  refine px_op_19 kt_43.2 rfl ?_
  refine px_PW.steps kt_43.2 2 rfl ?_
  refine px_op_20 kt_43.2 rfl ?_
  refine px_PW.steps kt_43.2 2 rfl ?_
  refine px_PW.callV kt_43.2 rfl rfl rfl rfl (nb_clear (q := 26) (by decide)) (by decide) (fun v h1 q => ?_)
  obtain ⟨rfl, rfl⟩ := q
  refine px_PW.steps kt_43.2 2 rfl ?_
  refine px_PW.callV kt_43.2 rfl rfl rfl rfl (cv_bodyOf _) (by decide) (fun v h1 q => ?_)
  obtain ⟨rfl, rfl⟩ := q
  refine px_PW.steps kt_43.2 4 rfl ?_
  refine px_PW.callV kt_43.2 rfl rfl rfl rfl (cv_chained (Z := (upd (upd (upd Z 18 (nI kd)) 19 nu) 20 ma)) (N := (upd N 26 0)) (b := 0) rfl _ _ (by have := s_ch_len kd vo hkd hvo; show 0 + (s_ch (nI kd) 30 (s_bodyOf (nI kd) (nI vo))).length ≤ 30; omega)) (by decide) (fun v h1 q => ?_)
  obtain ⟨rfl, g0, rfl⟩ := q
  refine px_PW.steps kt_43.2 4 rfl ?_
  refine px_PW.br (fun c0 => ?_) (fun c0 => ?_)
  · have c0 : ¬ ((s_bodyOf (nI kd) (nI vo)) = 21) := of_decide_eq_false (px_nt c0)
    refine px_PW.steps kt_43.2 1 rfl ?_
    refine px_PW.ret kt_43.2 rfl rfl ?_
    refine ⟨congrArg (fun z => some (Value.int z)) (show s_speak (nI kd) nu ma (nI vo) x = (s_chained (nI kd) nu ma (s_bodyOf (nI kd) (nI vo)) x) from if_neg c0).symm, _, 0 + (s_ch (nI kd) 30 (s_bodyOf (nI kd) (nI vo))).length, g0, rfl, ?_, ?_⟩
    · have := s_ch_len kd vo hkd hvo; have := s_ch_len kd 1 hkd (by decide); omega
    · have e1 : upd (upd N 26 0) 26 (nI (0 + (s_ch (nI kd) 30 (s_bodyOf (nI kd) (nI vo))).length)) = upd N 26 (nI (0 + (s_ch (nI kd) 30 (s_bodyOf (nI kd) (nI vo))).length)) := by rw [zz_uu]
      rw [← e1]
      rfl
  · have c0 : (s_bodyOf (nI kd) (nI vo)) = 21 := of_decide_eq_true (px_nf c0)
    refine px_PW.steps kt_43.2 4 rfl ?_
    refine px_PW.callV kt_43.2 rfl rfl rfl rfl (cv_bodyOf _) (by decide) (fun v h1 q => ?_)
    obtain ⟨rfl, rfl⟩ := q
    refine px_PW.steps kt_43.2 1 rfl ?_
    refine px_PW.callV kt_43.2 rfl rfl rfl rfl (cv_chained (Z := (upd (upd (upd Z 18 (nI kd)) 19 nu) 20 ma)) (N := (upd (upd N 26 0) 26 (nI (0 + (s_ch (nI kd) 30 (s_bodyOf (nI kd) (nI vo))).length)))) (b := 0 + (s_ch (nI kd) 30 (s_bodyOf (nI kd) (nI vo))).length) rfl _ _ (by have := s_ch_len kd vo hkd hvo; have := s_ch_len kd 1 hkd (by decide); show (0 + (s_ch (nI kd) 30 (s_bodyOf (nI kd) (nI vo))).length) + (s_ch (nI kd) 30 (s_bodyOf (nI kd) (nI 1))).length ≤ 30; omega)) (by decide) (fun v h1 q => ?_)
    obtain ⟨rfl, g1, rfl⟩ := q
    refine px_PW.steps kt_43.2 2 rfl ?_
    refine px_PW.ret kt_43.2 rfl rfl ?_
    refine ⟨congrArg (fun z => some (Value.int z)) (show s_speak (nI kd) nu ma (nI vo) x = ((s_chained (nI kd) nu ma (s_bodyOf (nI kd) (nI vo)) x) + (s_chained (nI kd) nu ma (s_bodyOf (nI kd) (nI 1)) 1)) from if_pos c0).symm, _, 0 + (s_ch (nI kd) 30 (s_bodyOf (nI kd) (nI vo))).length + (s_ch (nI kd) 30 (s_bodyOf (nI kd) (nI 1))).length, g1, rfl, ?_, ?_⟩
    · have := s_ch_len kd vo hkd hvo; have := s_ch_len kd 1 hkd (by decide); omega
    · have e1 : upd (upd (upd N 26 0) 26 (nI (0 + (s_ch (nI kd) 30 (s_bodyOf (nI kd) (nI vo))).length))) 26 (nI (0 + (s_ch (nI kd) 30 (s_bodyOf (nI kd) (nI vo))).length + (s_ch (nI kd) 30 (s_bodyOf (nI kd) (nI 1))).length)) = upd N 26 (nI (0 + (s_ch (nI kd) 30 (s_bodyOf (nI kd) (nI vo))).length + (s_ch (nI kd) 30 (s_bodyOf (nI kd) (nI 1))).length)) := by rw [zz_uu, zz_uu]
      rw [← e1]
      rw [show va_up F 26 g1 = va_up (va_up F 26 g0) 26 g1 from (px_up_up F 26 g0 g1).symm]
      rfl
