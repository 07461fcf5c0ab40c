def s_mjoin (sg x y : Int32) : Int32 := (if sg = 37 then (if y = 0 then 0 else (if y = (-1) then 0 else (x - x / y * y))) else (if sg = 38 then (if x = 0 then 0 else (if y = 0 then 0 else 1)) else (if sg = 42 then (x * y) else (if sg = 43 then (x + y) else (if sg = 45 then (x - y) else (if sg = 47 then (if y = 0 then 0 else (if y = (-1) then (-x) else (x / y))) else (if sg = 60 then (if y ≤ x then 0 else 1) else (if sg = 61 then (if x = y then 1 else 0) else (if sg = 62 then (if x ≤ y then 0 else 1) else (if x = 0 then (if y = 0 then 0 else 1) else 1))))))))))
theorem px_swd_139_1 {x : Int32} (c0 : ¬ (x = 37)) (c1 : ¬ (x = 38)) (c2 : ¬ (x = 42)) (c3 : ¬ (x = 43)) (c4 : ¬ (x = 45)) (c5 : ¬ (x = 47)) (c6 : ¬ (x = 60)) (c7 : ¬ (x = 61)) (c8 : ¬ (x = 62)) : px_sw 37 [154, 204, 218, 218, 218, 128, 120, 218, 124, 218, 132, 218, 218, 218, 218, 218, 218, 218, 218, 218, 218, 218, 218, 171, 193, 182] 218 x.toInt = 218 := by
  have d0 : ¬ (x.toInt = 37) := fun h => c0 (px_i_of h (by decide +kernel))
  have d1 : ¬ (x.toInt = 38) := fun h => c1 (px_i_of h (by decide +kernel))
  have d2 : ¬ (x.toInt = 42) := fun h => c2 (px_i_of h (by decide +kernel))
  have d3 : ¬ (x.toInt = 43) := fun h => c3 (px_i_of h (by decide +kernel))
  have d4 : ¬ (x.toInt = 45) := fun h => c4 (px_i_of h (by decide +kernel))
  have d5 : ¬ (x.toInt = 47) := fun h => c5 (px_i_of h (by decide +kernel))
  have d6 : ¬ (x.toInt = 60) := fun h => c6 (px_i_of h (by decide +kernel))
  have d7 : ¬ (x.toInt = 61) := fun h => c7 (px_i_of h (by decide +kernel))
  have d8 : ¬ (x.toInt = 62) := fun h => c8 (px_i_of h (by decide +kernel))
  exact px_sw_d (fun y h1 h2 => by
    have h1 : (37 : Int) ≤ y := h1
    have h2 : y < 63 := h2
    rcases (show y = 37 ∨ y = 38 ∨ y = 39 ∨ y = 40 ∨ y = 41 ∨ y = 42 ∨ y = 43 ∨ y = 44 ∨ y = 45 ∨ y = 46 ∨ y = 47 ∨ y = 48 ∨ y = 49 ∨ y = 50 ∨ y = 51 ∨ y = 52 ∨ y = 53 ∨ y = 54 ∨ y = 55 ∨ y = 56 ∨ y = 57 ∨ y = 58 ∨ y = 59 ∨ y = 60 ∨ y = 61 ∨ y = 62 by omega) with rfl | rfl | rfl | rfl | rfl | rfl | rfl | rfl | rfl | rfl | rfl | rfl | rfl | rfl | rfl | rfl | rfl | rfl | rfl | rfl | rfl | rfl | rfl | rfl | rfl | rfl
    · exact Or.inl (fun h => d0 h)
    · exact Or.inl (fun h => d1 h)
    · exact Or.inr rfl
    · exact Or.inr rfl
    · exact Or.inr rfl
    · exact Or.inl (fun h => d2 h)
    · exact Or.inl (fun h => d3 h)
    · exact Or.inr rfl
    · exact Or.inl (fun h => d4 h)
    · exact Or.inr rfl
    · exact Or.inl (fun h => d5 h)
    · exact Or.inr rfl
    · exact Or.inr rfl
    · exact Or.inr rfl
    · exact Or.inr rfl
    · exact Or.inr rfl
    · exact Or.inr rfl
    · exact Or.inr rfl
    · exact Or.inr rfl
    · exact Or.inr rfl
    · exact Or.inr rfl
    · exact Or.inr rfl
    · exact Or.inr rfl
    · exact Or.inl (fun h => d6 h)
    · exact Or.inl (fun h => d7 h)
    · exact Or.inl (fun h => d8 h))
theorem mm_join (sg x y : Int32) (h : px_H) : px_PM 1 139 [.int sg, .int x, .int y] h (fun r h' => r = some (.int (s_mjoin sg x y)) ∧ h' = h) := by
  refine px_PM.start (nL := 3) (code := pc_139) rfl rfl ?_
  refine px_PW.steps kt_139.2 2 rfl ?_
  by_cases c0 : sg = 37
  · refine px_PW.at (pc' := 154) (show px_sw 37 [154, 204, 218, 218, 218, 128, 120, 218, 124, 218, 132, 218, 218, 218, 218, 218, 218, 218, 218, 218, 218, 218, 218, 171, 193, 182] 218 (sg : Int32).toInt = 154 by rw [c0]; rfl) ?_
    refine px_PW.steps kt_139.2 2 rfl ?_
    refine px_PW.br (fun c1 => ?_) (fun c1 => ?_)
    · have c1 : y = 0 := of_decide_eq_true c1
      refine px_PW.steps kt_139.2 2 rfl ?_
      refine px_PW.ret kt_139.2 rfl rfl ?_
      exact ⟨congrArg (fun z => some (Value.int z)) (show s_mjoin sg x y = 0 from (if_pos c0).trans (if_pos c1)).symm, rfl⟩
    · have c1 : ¬ (y = 0) := of_decide_eq_false c1
      refine px_PW.steps kt_139.2 3 rfl ?_
      refine px_PW.br (fun c2 => ?_) (fun c2 => ?_)
      · have c2 : ¬ (y = (-1)) := of_decide_eq_false (px_nt c2)
        refine px_PW.steps kt_139.2 2 rfl ?_
        refine px_PW.bin0 kt_139.2 rfl c1 ?_
        refine px_PW.ret kt_139.2 rfl rfl ?_
        exact ⟨congrArg (fun z => some (Value.int z)) (show s_mjoin sg x y = (x - x / y * y) from (if_pos c0).trans ((if_neg c1).trans (if_neg c2))).symm, rfl⟩
      · have c2 : y = (-1) := of_decide_eq_true (px_nf c2)
        refine px_PW.steps kt_139.2 2 rfl ?_
        refine px_PW.ret kt_139.2 rfl rfl ?_
        exact ⟨congrArg (fun z => some (Value.int z)) (show s_mjoin sg x y = 0 from (if_pos c0).trans ((if_neg c1).trans (if_pos c2))).symm, rfl⟩
  · skip
    by_cases c3 : sg = 38
    · refine px_PW.at (pc' := 204) (show px_sw 37 [154, 204, 218, 218, 218, 128, 120, 218, 124, 218, 132, 218, 218, 218, 218, 218, 218, 218, 218, 218, 218, 218, 218, 171, 193, 182] 218 (sg : Int32).toInt = 204 by rw [c3]; rfl) ?_
      refine px_PW.steps kt_139.2 2 rfl ?_
      refine px_PW.br (fun c4 => ?_) (fun c4 => ?_)
      · have c4 : x = 0 := of_decide_eq_true c4
        refine px_PW.steps kt_139.2 1 rfl ?_
        refine px_PW.ret kt_139.2 rfl rfl ?_
        exact ⟨congrArg (fun z => some (Value.int z)) (show s_mjoin sg x y = 0 from (if_neg c0).trans ((if_pos c3).trans (if_pos c4))).symm, rfl⟩
      · have c4 : ¬ (x = 0) := of_decide_eq_false c4
        refine px_PW.steps kt_139.2 2 rfl ?_
        refine px_PW.br (fun c5 => ?_) (fun c5 => ?_)
        · have c5 : y = 0 := of_decide_eq_true c5
          refine px_PW.steps kt_139.2 1 rfl ?_
          refine px_PW.ret kt_139.2 rfl rfl ?_
          exact ⟨congrArg (fun z => some (Value.int z)) (show s_mjoin sg x y = 0 from (if_neg c0).trans ((if_pos c3).trans ((if_neg c4).trans (if_pos c5)))).symm, rfl⟩
        · have c5 : ¬ (y = 0) := of_decide_eq_false c5
          refine px_PW.steps kt_139.2 2 rfl ?_
          refine px_PW.ret kt_139.2 rfl rfl ?_
          exact ⟨congrArg (fun z => some (Value.int z)) (show s_mjoin sg x y = 1 from (if_neg c0).trans ((if_pos c3).trans ((if_neg c4).trans (if_neg c5)))).symm, rfl⟩
    · skip
      by_cases c6 : sg = 42
      · refine px_PW.at (pc' := 128) (show px_sw 37 [154, 204, 218, 218, 218, 128, 120, 218, 124, 218, 132, 218, 218, 218, 218, 218, 218, 218, 218, 218, 218, 218, 218, 171, 193, 182] 218 (sg : Int32).toInt = 128 by rw [c6]; rfl) ?_
        refine px_PW.steps kt_139.2 3 rfl ?_
        refine px_PW.ret kt_139.2 rfl rfl ?_
        exact ⟨congrArg (fun z => some (Value.int z)) (show s_mjoin sg x y = (x * y) from (if_neg c0).trans ((if_neg c3).trans (if_pos c6))).symm, rfl⟩
      · skip
        by_cases c7 : sg = 43
        · refine px_PW.at (pc' := 120) (show px_sw 37 [154, 204, 218, 218, 218, 128, 120, 218, 124, 218, 132, 218, 218, 218, 218, 218, 218, 218, 218, 218, 218, 218, 218, 171, 193, 182] 218 (sg : Int32).toInt = 120 by rw [c7]; rfl) ?_
          refine px_PW.steps kt_139.2 3 rfl ?_
          refine px_PW.ret kt_139.2 rfl rfl ?_
          exact ⟨congrArg (fun z => some (Value.int z)) (show s_mjoin sg x y = (x + y) from (if_neg c0).trans ((if_neg c3).trans ((if_neg c6).trans (if_pos c7)))).symm, rfl⟩
        · skip
          by_cases c8 : sg = 45
          · refine px_PW.at (pc' := 124) (show px_sw 37 [154, 204, 218, 218, 218, 128, 120, 218, 124, 218, 132, 218, 218, 218, 218, 218, 218, 218, 218, 218, 218, 218, 218, 171, 193, 182] 218 (sg : Int32).toInt = 124 by rw [c8]; rfl) ?_
            refine px_PW.steps kt_139.2 3 rfl ?_
            refine px_PW.ret kt_139.2 rfl rfl ?_
            exact ⟨congrArg (fun z => some (Value.int z)) (show s_mjoin sg x y = (x - y) from (if_neg c0).trans ((if_neg c3).trans ((if_neg c6).trans ((if_neg c7).trans (if_pos c8))))).symm, rfl⟩
          · skip
            by_cases c9 : sg = 47
            · refine px_PW.at (pc' := 132) (show px_sw 37 [154, 204, 218, 218, 218, 128, 120, 218, 124, 218, 132, 218, 218, 218, 218, 218, 218, 218, 218, 218, 218, 218, 218, 171, 193, 182] 218 (sg : Int32).toInt = 132 by rw [c9]; rfl) ?_
              refine px_PW.steps kt_139.2 2 rfl ?_
              refine px_PW.br (fun c10 => ?_) (fun c10 => ?_)
              · have c10 : ¬ (y = 0) := of_decide_eq_false (px_nt c10)
                refine px_PW.steps kt_139.2 3 rfl ?_
                refine px_PW.br (fun c11 => ?_) (fun c11 => ?_)
                · have c11 : ¬ (y = (-1)) := of_decide_eq_false (px_nt c11)
                  refine px_PW.steps kt_139.2 2 rfl ?_
                  refine px_PW.bin0 kt_139.2 rfl c10 ?_
                  refine px_PW.ret kt_139.2 rfl rfl ?_
                  exact ⟨congrArg (fun z => some (Value.int z)) (show s_mjoin sg x y = (x / y) from (if_neg c0).trans ((if_neg c3).trans ((if_neg c6).trans ((if_neg c7).trans ((if_neg c8).trans ((if_pos c9).trans ((if_neg c10).trans (if_neg c11)))))))).symm, rfl⟩
                · have c11 : y = (-1) := of_decide_eq_true (px_nf c11)
                  refine px_PW.steps kt_139.2 3 rfl ?_
                  refine px_PW.ret kt_139.2 rfl rfl ?_
                  exact ⟨congrArg (fun z => some (Value.int z)) (show s_mjoin sg x y = (-x) from (if_neg c0).trans ((if_neg c3).trans ((if_neg c6).trans ((if_neg c7).trans ((if_neg c8).trans ((if_pos c9).trans ((if_neg c10).trans (if_pos c11)))))))).symm, rfl⟩
              · have c10 : y = 0 := of_decide_eq_true (px_nf c10)
                refine px_PW.steps kt_139.2 2 rfl ?_
                refine px_PW.ret kt_139.2 rfl rfl ?_
                exact ⟨congrArg (fun z => some (Value.int z)) (show s_mjoin sg x y = 0 from (if_neg c0).trans ((if_neg c3).trans ((if_neg c6).trans ((if_neg c7).trans ((if_neg c8).trans ((if_pos c9).trans (if_pos c10))))))).symm, rfl⟩
            · skip
              by_cases c12 : sg = 60
              · refine px_PW.at (pc' := 171) (show px_sw 37 [154, 204, 218, 218, 218, 128, 120, 218, 124, 218, 132, 218, 218, 218, 218, 218, 218, 218, 218, 218, 218, 218, 218, 171, 193, 182] 218 (sg : Int32).toInt = 171 by rw [c12]; rfl) ?_
                refine px_PW.steps kt_139.2 3 rfl ?_
                refine px_PW.br (fun c13 => ?_) (fun c13 => ?_)
                · have c13 : y ≤ x := of_decide_eq_true c13
                  refine px_PW.steps kt_139.2 1 rfl ?_
                  refine px_PW.ret kt_139.2 rfl rfl ?_
                  exact ⟨congrArg (fun z => some (Value.int z)) (show s_mjoin sg x y = 0 from (if_neg c0).trans ((if_neg c3).trans ((if_neg c6).trans ((if_neg c7).trans ((if_neg c8).trans ((if_neg c9).trans ((if_pos c12).trans (if_pos c13)))))))).symm, rfl⟩
                · have c13 : ¬ (y ≤ x) := of_decide_eq_false c13
                  refine px_PW.steps kt_139.2 2 rfl ?_
                  refine px_PW.ret kt_139.2 rfl rfl ?_
                  exact ⟨congrArg (fun z => some (Value.int z)) (show s_mjoin sg x y = 1 from (if_neg c0).trans ((if_neg c3).trans ((if_neg c6).trans ((if_neg c7).trans ((if_neg c8).trans ((if_neg c9).trans ((if_pos c12).trans (if_neg c13)))))))).symm, rfl⟩
              · skip
                by_cases c14 : sg = 61
                · refine px_PW.at (pc' := 193) (show px_sw 37 [154, 204, 218, 218, 218, 128, 120, 218, 124, 218, 132, 218, 218, 218, 218, 218, 218, 218, 218, 218, 218, 218, 218, 171, 193, 182] 218 (sg : Int32).toInt = 193 by rw [c14]; rfl) ?_
                  refine px_PW.steps kt_139.2 3 rfl ?_
                  refine px_PW.br (fun c15 => ?_) (fun c15 => ?_)
                  · have c15 : ¬ (x = y) := of_decide_eq_false (px_nt c15)
                    refine px_PW.steps kt_139.2 1 rfl ?_
                    refine px_PW.ret kt_139.2 rfl rfl ?_
                    exact ⟨congrArg (fun z => some (Value.int z)) (show s_mjoin sg x y = 0 from (if_neg c0).trans ((if_neg c3).trans ((if_neg c6).trans ((if_neg c7).trans ((if_neg c8).trans ((if_neg c9).trans ((if_neg c12).trans ((if_pos c14).trans (if_neg c15))))))))).symm, rfl⟩
                  · have c15 : x = y := of_decide_eq_true (px_nf c15)
                    refine px_PW.steps kt_139.2 2 rfl ?_
                    refine px_PW.ret kt_139.2 rfl rfl ?_
                    exact ⟨congrArg (fun z => some (Value.int z)) (show s_mjoin sg x y = 1 from (if_neg c0).trans ((if_neg c3).trans ((if_neg c6).trans ((if_neg c7).trans ((if_neg c8).trans ((if_neg c9).trans ((if_neg c12).trans ((if_pos c14).trans (if_pos c15))))))))).symm, rfl⟩
                · skip
                  by_cases c16 : sg = 62
                  · refine px_PW.at (pc' := 182) (show px_sw 37 [154, 204, 218, 218, 218, 128, 120, 218, 124, 218, 132, 218, 218, 218, 218, 218, 218, 218, 218, 218, 218, 218, 218, 171, 193, 182] 218 (sg : Int32).toInt = 182 by rw [c16]; rfl) ?_
                    refine px_PW.steps kt_139.2 3 rfl ?_
                    refine px_PW.br (fun c17 => ?_) (fun c17 => ?_)
                    · have c17 : x ≤ y := of_decide_eq_true c17
                      refine px_PW.steps kt_139.2 1 rfl ?_
                      refine px_PW.ret kt_139.2 rfl rfl ?_
                      exact ⟨congrArg (fun z => some (Value.int z)) (show s_mjoin sg x y = 0 from (if_neg c0).trans ((if_neg c3).trans ((if_neg c6).trans ((if_neg c7).trans ((if_neg c8).trans ((if_neg c9).trans ((if_neg c12).trans ((if_neg c14).trans ((if_pos c16).trans (if_pos c17)))))))))).symm, rfl⟩
                    · have c17 : ¬ (x ≤ y) := of_decide_eq_false c17
                      refine px_PW.steps kt_139.2 2 rfl ?_
                      refine px_PW.ret kt_139.2 rfl rfl ?_
                      exact ⟨congrArg (fun z => some (Value.int z)) (show s_mjoin sg x y = 1 from (if_neg c0).trans ((if_neg c3).trans ((if_neg c6).trans ((if_neg c7).trans ((if_neg c8).trans ((if_neg c9).trans ((if_neg c12).trans ((if_neg c14).trans ((if_pos c16).trans (if_neg c17)))))))))).symm, rfl⟩
                  · skip
                    refine px_PW.at (px_swd_139_1 c0 c3 c6 c7 c8 c9 c12 c14 c16) ?_
                    refine px_PW.steps kt_139.2 2 rfl ?_
                    refine px_PW.br (fun c18 => ?_) (fun c18 => ?_)
                    · have c18 : ¬ (x = 0) := of_decide_eq_false (px_nt c18)
                      refine px_PW.steps kt_139.2 2 rfl ?_
                      refine px_PW.ret kt_139.2 rfl rfl ?_
                      exact ⟨congrArg (fun z => some (Value.int z)) (show s_mjoin sg x y = 1 from (if_neg c0).trans ((if_neg c3).trans ((if_neg c6).trans ((if_neg c7).trans ((if_neg c8).trans ((if_neg c9).trans ((if_neg c12).trans ((if_neg c14).trans ((if_neg c16).trans (if_neg c18)))))))))).symm, rfl⟩
                    · have c18 : x = 0 := of_decide_eq_true (px_nf c18)
                      refine px_PW.steps kt_139.2 2 rfl ?_
                      refine px_PW.br (fun c19 => ?_) (fun c19 => ?_)
                      · have c19 : y = 0 := of_decide_eq_true c19
                        refine px_PW.steps kt_139.2 1 rfl ?_
                        refine px_PW.ret kt_139.2 rfl rfl ?_
                        exact ⟨congrArg (fun z => some (Value.int z)) (show s_mjoin sg x y = 0 from (if_neg c0).trans ((if_neg c3).trans ((if_neg c6).trans ((if_neg c7).trans ((if_neg c8).trans ((if_neg c9).trans ((if_neg c12).trans ((if_neg c14).trans ((if_neg c16).trans ((if_pos c18).trans (if_pos c19))))))))))).symm, rfl⟩
                      · have c19 : ¬ (y = 0) := of_decide_eq_false c19
                        refine px_PW.steps kt_139.2 2 rfl ?_
                        refine px_PW.ret kt_139.2 rfl rfl ?_
                        exact ⟨congrArg (fun z => some (Value.int z)) (show s_mjoin sg x y = 1 from (if_neg c0).trans ((if_neg c3).trans ((if_neg c6).trans ((if_neg c7).trans ((if_neg c8).trans ((if_neg c9).trans ((if_neg c12).trans ((if_neg c14).trans ((if_neg c16).trans ((if_pos c18).trans (if_neg c19))))))))))).symm, rfl⟩
def r_evc (nm : Int32 → Int32) (what v : Int32) (st : List Int32) : List Int32 := if what = 0 then v :: st else if what = 1 then nm v :: st else if what = 2 then (if st.headD 0 = 0 then (1 : Int32) else 0) :: st.tail else s_mjoin v (st.tail.headD 0) (st.headD 0) :: st.tail.tail
def r_evs (nm : Int32 → Int32) (what v : Nat → Int32) : Nat → Nat → List Int32 → List Int32
  | 0, _, st => st
  | m + 1, k, st => r_evs nm what v m (k + 1) (r_evc nm (what k) (v k) st)
/-- the steps of a TEXT work out to one number, its names being some of ok -/
def r_wf (ok : Int32 → Prop) (what v : Nat → Int32) : Nat → Nat → Nat → Prop
  | 0, _, d => d = 1
  | m + 1, k, d => (what k = 0 ∧ r_wf ok what v m (k + 1) (d + 1)) ∨ (what k = 1 ∧ ok (v k) ∧ r_wf ok what v m (k + 1) (d + 1)) ∨ (what k = 2 ∧ 1 ≤ d ∧ r_wf ok what v m (k + 1) d) ∨ (what k = 3 ∧ 2 ≤ d ∧ r_wf ok what v m (k + 1) (d - 1))
theorem ms_7q {d : Nat} {code : Nat → Option px_A} (hT : px_frT code) {Q : Option Value → px_H → Prop} {pc n : Nat} {i x : Int32} {lv : px_L} {r : List Value} {Z g : Nat → Int32} {F : Nat → Nat → Int32} (hc : code pc = some px_iast) (hi : i = nI n) (hn : n < 64) (kk : px_PW d code Q (pc + 1) lv r ([], px_MH Z (va_up F 7 (upd g n x)))) : px_PW d code Q pc lv (.int x :: .int i :: .ref 1008 :: r) ([], px_MH Z (va_up F 7 g)) := by
  refine ms_7 hT hc hi hn ?_
  rw [px_up_up, px_up_self]
  exact kk
def r_ok0 (v : Int32) : Prop := v = 99 ∨ v = 116 ∨ v = 119
theorem r_ok0_n {v : Int32} (h : r_ok0 v) : v = nI v.toNatClampNeg ∧ v.toNatClampNeg < 128 := by
  rcases h with rfl | rfl | rfl <;> exact ⟨rfl, by decide⟩
theorem zz_wi (b k : Nat) : Int32.ofNat b + 2 * nI k = nI (b + 2 * k) := by
  rw [show (2 : Int32) = nI 2 from rfl, zz_mul]
  exact nI_add b (2 * k)
theorem zz_d1 (n : Nat) : nI (n + 1 + 1) + -1 = nI (n + 1) := zz_dec (n + 1)
theorem zz_d2 (n : Nat) : nI (n + 1 + 1) + -1 - 1 = nI n := by rw [zz_d1]; exact nI_pred n
theorem wz_n {ok : Int32 → Prop} {what v : Nat → Int32} {m k d : Nat} (hw : r_wf ok what v (m + 1) k d) (c : what k = 1) : ok (v k) := by
  rcases hw with h | h | h | h
  · exact absurd (h.1.symm.trans c) (by decide)
  · exact h.2.1
  · exact absurd (h.1.symm.trans c) (by decide)
  · exact absurd (h.1.symm.trans c) (by decide)
theorem wz_0 {ok : Int32 → Prop} {what v : Nat → Int32} {m k d : Nat} (hw : r_wf ok what v (m + 1) k d) (c : what k = 0) : r_wf ok what v m (k + 1) (d + 1) := by
  rcases hw with h | h | h | h
  · exact h.2
  · exact absurd (h.1.symm.trans c) (by decide)
  · exact absurd (h.1.symm.trans c) (by decide)
  · exact absurd (h.1.symm.trans c) (by decide)
theorem wz_1 {ok : Int32 → Prop} {what v : Nat → Int32} {m k d : Nat} (hw : r_wf ok what v (m + 1) k d) (c : what k = 1) : r_wf ok what v m (k + 1) (d + 1) := by
  rcases hw with h | h | h | h
  · exact absurd (h.1.symm.trans c) (by decide)
  · exact h.2.2
  · exact absurd (h.1.symm.trans c) (by decide)
  · exact absurd (h.1.symm.trans c) (by decide)
theorem wz_2 {ok : Int32 → Prop} {what v : Nat → Int32} {m k d : Nat} (hw : r_wf ok what v (m + 1) k d) (c : what k = 2) : 1 ≤ d ∧ r_wf ok what v m (k + 1) d := by
  rcases hw with h | h | h | h
  · exact absurd (h.1.symm.trans c) (by decide)
  · exact absurd (h.1.symm.trans c) (by decide)
  · exact h.2
  · exact absurd (h.1.symm.trans c) (by decide)
theorem wz_3 {ok : Int32 → Prop} {what v : Nat → Int32} {m k d : Nat} (hw : r_wf ok what v (m + 1) k d) (c0 : ¬ (what k = 0)) (c1 : ¬ (what k = 1)) (c2 : ¬ (what k = 2)) : 2 ≤ d ∧ r_wf ok what v m (k + 1) (d - 1) := by
  rcases hw with h | h | h | h
  · exact absurd h.1 c0
  · exact absurd h.1 c1
  · exact absurd h.1 c2
  · exact h.2
theorem m_wk0_loop {Z : Nat → Int32} {F : Nat → Nat → Int32} {n : Nat} (hn : F 0 36 = nI n) (hn62 : n ≤ 62) {Q : Option Value → px_H → Prop} : ∀ (m k : Nat) (st : List Int32) (g : Nat → Int32) (o5 o6 : Option Value), k + m = n → st.length ≤ k → zz_st g st → r_wf r_ok0 (fun k => F 0 (37 + 2 * k)) (fun k => F 0 (38 + 2 * k)) m k st.length → (∀ (x : Int32) (g : Nat → Int32) (o5 o6 : Option Value), (r_evs (fun v => F 6 v.toNatClampNeg) (fun k => F 0 (37 + 2 * k)) (fun k => F 0 (38 + 2 * k)) m k st) = [x] → g 0 = x → px_PW 1 pc_140 Q 163 [some (.ref 1000), some (.int 0), some (.int (nI 36)), some (.int (nI 1)), some (.int (nI n)), o5, o6] [] ([], px_MH Z (va_up F 7 g))) → px_PW 1 pc_140 Q 13 [some (.ref 1000), some (.int 0), some (.int (nI 36)), some (.int (nI st.length)), some (.int (nI k)), o5, o6] [] ([], px_MH Z (va_up F 7 g))
  | m, k, st, g, o5, o6, hk, hl, hs, hw, H => by
    refine px_PW.steps kt_140.2 4 rfl ?_
    refine px_PW.aldN kt_140.2 rfl rfl (n := 36) rfl (by decide) ?_
    rw [show (va_up F 7 g) 0 36 = nI n from hn]
    refine px_PW.steps kt_140.2 1 rfl ?_
    refine px_PW.br (fun c0 => ?_) (fun c0 => ?_)
    · have c0 : (nI n) ≤ (nI k) := of_decide_eq_true c0
      have c0 : n ≤ k := (nI_leI (a := n) (b := k) (by omega) (by omega)).mp c0
      obtain rfl : m = 0 := by omega
      obtain rfl : k = n := by omega
      have h1 : st.length = 1 := hw
      match st, h1, hs, H with
      | [x], _, hs, H => exact H x g _ _ rfl hs.1
    · have c0 : ¬ ((nI n) ≤ (nI k)) := of_decide_eq_false c0
      have c0 : ¬ (n ≤ k) := fun q => c0 ((nI_leI (a := n) (b := k) (by omega) (by omega)).mpr q)
      obtain ⟨m2, rfl⟩ : ∃ m2, m = m2 + 1 := ⟨m - 1, by omega⟩
      refine px_PW.steps kt_140.2 9 rfl ?_
      refine px_PW.aldN kt_140.2 rfl rfl (n := 37 + 2 * k) (zz_wi 37 k) (by omega) ?_
      refine px_PW.steps kt_140.2 10 rfl ?_
      refine px_PW.aldN kt_140.2 rfl rfl (n := 38 + 2 * k) (zz_wi 38 k) (by omega) ?_
      refine px_PW.steps kt_140.2 3 rfl ?_
      refine px_PW.br (fun c1 => ?_) (fun c1 => ?_)
      · have c1 : (F 0 (37 + 2 * k)) = 0 := of_decide_eq_true c1
        refine px_PW.steps kt_140.2 5 rfl ?_
        refine px_PW.br (fun c2 => ?_) (fun c2 => ?_)
        · have c2 : ¬ ((F 0 (37 + 2 * k)) = 0) := of_decide_eq_false (px_nt c2)
          exact absurd c1 c2
        · have c2 : (F 0 (37 + 2 * k)) = 0 := of_decide_eq_true (px_nf c2)
          refine px_PW.steps kt_140.2 2 rfl ?_
          refine ms_7q kt_140.2 rfl (n := st.length) rfl (by omega) ?_
          refine px_PW.steps kt_140.2 4 rfl ?_
          have e0 : r_evc (fun v => F 6 v.toNatClampNeg) (F 0 (37 + 2 * k)) (F 0 (38 + 2 * k)) st = ((F 0 (38 + 2 * k)) :: st) := if_pos c1
          have g2 := m_wk0_loop hn hn62 (Z := Z) (F := F) (Q := Q) m2 (k + 1) ((F 0 (38 + 2 * k)) :: st) (upd g st.length (F 0 (38 + 2 * k))) (some (.int (F 0 (37 + 2 * k)))) (some (.int (F 0 (38 + 2 * k)))) (by omega) (by simp only [List.length_cons]; omega) (zz_st_push hs) (wz_0 (what := (fun k => F 0 (37 + 2 * k))) (v := (fun k => F 0 (38 + 2 * k))) hw c1) (fun x9 g9 o5 o6 e9 h9 => H x9 g9 o5 o6 (by rw [← e9]; show r_evs (fun v => F 6 v.toNatClampNeg) (fun k => F 0 (37 + 2 * k)) (fun k => F 0 (38 + 2 * k)) m2 (k + 1) (r_evc (fun v => F 6 v.toNatClampNeg) (F 0 (37 + 2 * k)) (F 0 (38 + 2 * k)) st) = _; rw [e0]) h9)
          refine px_PW.lc (lv' := [some (.ref 1000), some (.int 0), some (.int (nI 36)), some (.int (nI (st.length + 1))), some (.int (nI (k + 1))), (some (.int (F 0 (37 + 2 * k)))), (some (.int (F 0 (38 + 2 * k))))]) (show ([some (.ref 1000), some (.int 0), some (.int (nI 36)), some (.int (nI st.length + 1)), some (.int (nI k + 1)), (some (.int (F 0 (37 + 2 * k)))), (some (.int (F 0 (38 + 2 * k))))] : px_L) = _ from by rw [← nI_succ k, ← nI_succ st.length]) ?_
          exact g2
      · have c1 : ¬ ((F 0 (37 + 2 * k)) = 0) := of_decide_eq_false c1
        refine px_PW.steps kt_140.2 3 rfl ?_
        refine px_PW.br (fun c3 => ?_) (fun c3 => ?_)
        · have c3 : ¬ ((F 0 (37 + 2 * k)) = 1) := of_decide_eq_false (px_nt c3)
          refine px_PW.steps kt_140.2 3 rfl ?_
          refine px_PW.br (fun c4 => ?_) (fun c4 => ?_)
          · have c4 : ¬ ((F 0 (37 + 2 * k)) = 2) := of_decide_eq_false (px_nt c4)
            have hd := wz_3 (what := (fun k => F 0 (37 + 2 * k))) (v := (fun k => F 0 (38 + 2 * k))) hw c1 c3 c4
            obtain ⟨y, x, r, rfl⟩ : ∃ y x r, st = y :: x :: r := by
              match st, hd.1 with
              | y :: x :: r, _ => exact ⟨y, x, r, rfl⟩
            refine px_PW.steps kt_140.2 12 rfl ?_
            refine px_PW.aldN kt_140.2 rfl rfl (n := r.length) (zz_d2 r.length) (by have := hl; simp only [List.length_cons] at this; omega) ?_
            rw [show (va_up F 7 g) 7 r.length = x from hs.2.1]
            refine px_PW.steps kt_140.2 3 rfl ?_
            refine px_PW.aldN kt_140.2 rfl rfl (n := r.length + 1) (zz_d1 r.length) (by have := hl; simp only [List.length_cons] at this; omega) ?_
            rw [show (va_up F 7 g) 7 (r.length + 1) = y from hs.1]
            refine px_PW.callS kt_140.2 rfl rfl rfl (mm_join _ _ _ _) (by decide) (fun v h1 q => ?_)
            obtain ⟨rfl, rfl⟩ := q
            refine ms_7q kt_140.2 rfl (n := r.length) (zz_d2 r.length) (by have := hl; simp only [List.length_cons] at this; omega) ?_
            refine px_PW.steps kt_140.2 2 rfl ?_
            have e0 : r_evc (fun v => F 6 v.toNatClampNeg) (F 0 (37 + 2 * k)) (F 0 (38 + 2 * k)) (y :: x :: r) = (s_mjoin (F 0 (38 + 2 * k)) x y :: r) := (if_neg c1).trans ((if_neg c3).trans (if_neg c4))
            have g2 := m_wk0_loop hn hn62 (Z := Z) (F := F) (Q := Q) m2 (k + 1) (s_mjoin (F 0 (38 + 2 * k)) x y :: r) (upd g r.length (s_mjoin (F 0 (38 + 2 * k)) x y)) (some (.int (F 0 (37 + 2 * k)))) (some (.int (F 0 (38 + 2 * k)))) (by omega) (by have := hl; simp only [List.length_cons] at this ⊢; omega) (zz_st_push hs.2.2) hd.2 (fun x9 g9 o5 o6 e9 h9 => H x9 g9 o5 o6 (by rw [← e9]; show r_evs (fun v => F 6 v.toNatClampNeg) (fun k => F 0 (37 + 2 * k)) (fun k => F 0 (38 + 2 * k)) m2 (k + 1) (r_evc (fun v => F 6 v.toNatClampNeg) (F 0 (37 + 2 * k)) (F 0 (38 + 2 * k)) (y :: x :: r)) = _; rw [e0]) h9)
            refine px_PW.lc (lv' := [some (.ref 1000), some (.int 0), some (.int (nI 36)), some (.int (nI (r.length + 1))), some (.int (nI (k + 1))), (some (.int (F 0 (37 + 2 * k)))), (some (.int (F 0 (38 + 2 * k))))]) (show ([some (.ref 1000), some (.int 0), some (.int (nI 36)), some (.int (nI (y :: x :: r).length + -1)), some (.int (nI k + 1)), (some (.int (F 0 (37 + 2 * k)))), (some (.int (F 0 (38 + 2 * k))))] : px_L) = _ from by rw [← nI_succ k, show nI (y :: x :: r).length + -1 = nI (r.length + 1) from zz_dec (r.length + 1)]) ?_
            exact g2
          · have c4 : (F 0 (37 + 2 * k)) = 2 := of_decide_eq_true (px_nf c4)
            have hd := wz_2 (what := (fun k => F 0 (37 + 2 * k))) (v := (fun k => F 0 (38 + 2 * k))) hw c4
            obtain ⟨y, r, rfl⟩ : ∃ y r, st = y :: r := by
              cases st with
              | nil => exact absurd hd.1 (by decide)
              | cons y r => exact ⟨y, r, rfl⟩
            refine px_PW.steps kt_140.2 10 rfl ?_
            refine px_PW.aldN kt_140.2 rfl rfl (n := r.length) (nI_pred r.length) (by have := hl; simp only [List.length_cons] at this; omega) ?_
            rw [show (va_up F 7 g) 7 r.length = y from hs.1]
            refine px_PW.steps kt_140.2 1 rfl ?_
            refine px_PW.br (fun c5 => ?_) (fun c5 => ?_)
            · have c5 : ¬ (y = 0) := of_decide_eq_false (px_nt c5)
              refine px_PW.steps kt_140.2 1 rfl ?_
              refine ms_7q kt_140.2 rfl (n := r.length) (nI_pred r.length) (by have := hl; simp only [List.length_cons] at this; omega) ?_
              refine px_PW.steps kt_140.2 3 rfl ?_
              have e0 : r_evc (fun v => F 6 v.toNatClampNeg) (F 0 (37 + 2 * k)) (F 0 (38 + 2 * k)) (y :: r) = ((0 : Int32) :: r) := (if_neg c1).trans ((if_neg c3).trans ((if_pos c4).trans (congrArg (fun z : Int32 => z :: r) (if_neg c5))))
              have g2 := m_wk0_loop hn hn62 (Z := Z) (F := F) (Q := Q) m2 (k + 1) ((0 : Int32) :: r) (upd g r.length 0) (some (.int (F 0 (37 + 2 * k)))) (some (.int (F 0 (38 + 2 * k)))) (by omega) (by have := hl; simp only [List.length_cons] at this ⊢; omega) (zz_st_push hs.2) hd.2 (fun x9 g9 o5 o6 e9 h9 => H x9 g9 o5 o6 (by rw [← e9]; show r_evs (fun v => F 6 v.toNatClampNeg) (fun k => F 0 (37 + 2 * k)) (fun k => F 0 (38 + 2 * k)) m2 (k + 1) (r_evc (fun v => F 6 v.toNatClampNeg) (F 0 (37 + 2 * k)) (F 0 (38 + 2 * k)) (y :: r)) = _; rw [e0]) h9)
              refine px_PW.lc (lv' := [some (.ref 1000), some (.int 0), some (.int (nI 36)), some (.int (nI (r.length + 1))), some (.int (nI (k + 1))), (some (.int (F 0 (37 + 2 * k)))), (some (.int (F 0 (38 + 2 * k))))]) (show ([some (.ref 1000), some (.int 0), some (.int (nI 36)), some (.int (nI (y :: r).length)), some (.int (nI k + 1)), (some (.int (F 0 (37 + 2 * k)))), (some (.int (F 0 (38 + 2 * k))))] : px_L) = _ from by rw [← nI_succ k]; rfl) ?_
              exact g2
            · have c5 : y = 0 := of_decide_eq_true (px_nf c5)
              refine px_PW.steps kt_140.2 2 rfl ?_
              refine ms_7q kt_140.2 rfl (n := r.length) (nI_pred r.length) (by have := hl; simp only [List.length_cons] at this; omega) ?_
              refine px_PW.steps kt_140.2 3 rfl ?_
              have e0 : r_evc (fun v => F 6 v.toNatClampNeg) (F 0 (37 + 2 * k)) (F 0 (38 + 2 * k)) (y :: r) = ((1 : Int32) :: r) := (if_neg c1).trans ((if_neg c3).trans ((if_pos c4).trans (congrArg (fun z : Int32 => z :: r) (if_pos c5))))
              have g2 := m_wk0_loop hn hn62 (Z := Z) (F := F) (Q := Q) m2 (k + 1) ((1 : Int32) :: r) (upd g r.length 1) (some (.int (F 0 (37 + 2 * k)))) (some (.int (F 0 (38 + 2 * k)))) (by omega) (by have := hl; simp only [List.length_cons] at this ⊢; omega) (zz_st_push hs.2) hd.2 (fun x9 g9 o5 o6 e9 h9 => H x9 g9 o5 o6 (by rw [← e9]; show r_evs (fun v => F 6 v.toNatClampNeg) (fun k => F 0 (37 + 2 * k)) (fun k => F 0 (38 + 2 * k)) m2 (k + 1) (r_evc (fun v => F 6 v.toNatClampNeg) (F 0 (37 + 2 * k)) (F 0 (38 + 2 * k)) (y :: r)) = _; rw [e0]) h9)
              refine px_PW.lc (lv' := [some (.ref 1000), some (.int 0), some (.int (nI 36)), some (.int (nI (r.length + 1))), some (.int (nI (k + 1))), (some (.int (F 0 (37 + 2 * k)))), (some (.int (F 0 (38 + 2 * k))))]) (show ([some (.ref 1000), some (.int 0), some (.int (nI 36)), some (.int (nI (y :: r).length)), some (.int (nI k + 1)), (some (.int (F 0 (37 + 2 * k)))), (some (.int (F 0 (38 + 2 * k))))] : px_L) = _ from by rw [← nI_succ k]; rfl) ?_
              exact g2
        · have c3 : (F 0 (37 + 2 * k)) = 1 := of_decide_eq_true (px_nf c3)
          refine px_PW.steps kt_140.2 5 rfl ?_
          refine px_PW.br (fun c6 => ?_) (fun c6 => ?_)
          · have c6 : ¬ ((F 0 (37 + 2 * k)) = 0) := of_decide_eq_false (px_nt c6)
            have hnm : r_ok0 (F 0 (38 + 2 * k)) := wz_n (what := (fun k => F 0 (37 + 2 * k))) (v := (fun k => F 0 (38 + 2 * k))) hw c3
            refine px_PW.steps kt_140.2 3 rfl ?_
            refine px_PW.aldN kt_140.2 rfl rfl (n := (F 0 (38 + 2 * k)).toNatClampNeg) (r_ok0_n hnm).1 (r_ok0_n hnm).2 ?_
            refine ms_7q kt_140.2 rfl (n := st.length) rfl (by omega) ?_
            refine px_PW.steps kt_140.2 4 rfl ?_
            have e0 : r_evc (fun v => F 6 v.toNatClampNeg) (F 0 (37 + 2 * k)) (F 0 (38 + 2 * k)) st = (F 6 (F 0 (38 + 2 * k)).toNatClampNeg :: st) := (if_neg c1).trans (if_pos c3)
            have g2 := m_wk0_loop hn hn62 (Z := Z) (F := F) (Q := Q) m2 (k + 1) (F 6 (F 0 (38 + 2 * k)).toNatClampNeg :: st) (upd g st.length (F 6 (F 0 (38 + 2 * k)).toNatClampNeg)) (some (.int (F 0 (37 + 2 * k)))) (some (.int (F 0 (38 + 2 * k)))) (by omega) (by simp only [List.length_cons]; omega) (zz_st_push hs) (wz_1 (what := (fun k => F 0 (37 + 2 * k))) (v := (fun k => F 0 (38 + 2 * k))) hw c3) (fun x9 g9 o5 o6 e9 h9 => H x9 g9 o5 o6 (by rw [← e9]; show r_evs (fun v => F 6 v.toNatClampNeg) (fun k => F 0 (37 + 2 * k)) (fun k => F 0 (38 + 2 * k)) m2 (k + 1) (r_evc (fun v => F 6 v.toNatClampNeg) (F 0 (37 + 2 * k)) (F 0 (38 + 2 * k)) st) = _; rw [e0]) h9)
            refine px_PW.lc (lv' := [some (.ref 1000), some (.int 0), some (.int (nI 36)), some (.int (nI (st.length + 1))), some (.int (nI (k + 1))), (some (.int (F 0 (37 + 2 * k)))), (some (.int (F 0 (38 + 2 * k))))]) (show ([some (.ref 1000), some (.int 0), some (.int (nI 36)), some (.int (nI st.length + 1)), some (.int (nI k + 1)), (some (.int (F 0 (37 + 2 * k)))), (some (.int (F 0 (38 + 2 * k))))] : px_L) = _ from by rw [← nI_succ k, ← nI_succ st.length]) ?_
            exact g2
          · have c6 : (F 0 (37 + 2 * k)) = 0 := of_decide_eq_true (px_nf c6)
            exact absurd c6 c1
theorem mm_wk0 {Z : Nat → Int32} {F : Nat → Nat → Int32} {n : Nat} (hn : F 0 36 = nI n) (hn62 : n ≤ 62) (hw : r_wf r_ok0 (fun k => F 0 (37 + 2 * k)) (fun k => F 0 (38 + 2 * k)) n 0 0) : px_PM 2 140 [.ref 1000, .int 0] ([], px_MH Z F) (fun r h' => r = some (.int ((r_evs (fun v => F 6 v.toNatClampNeg) (fun k => F 0 (37 + 2 * k)) (fun k => F 0 (38 + 2 * k)) n 0 []).headD 0)) ∧ ∃ g : Nat → Int32, h' = ([], px_MH Z (va_up F 7 g))) := by
  refine px_PM.start (nL := 7) (code := pc_140) rfl rfl ?_
  refine px_PW.steps kt_140.2 10 rfl ?_
  refine px_PW.hp (h' := ([], px_MH Z (va_up F 7 (F 7)))) (by rw [px_up_id]) ?_
  refine m_wk0_loop hn hn62 n 0 [] (F 7) none none (by omega) (Nat.le_refl 0) trivial hw (fun x g o5 o6 e1 e2 => ?_)
  refine px_PW.steps kt_140.2 4 rfl ?_
  refine px_PW.ret kt_140.2 rfl rfl ?_
  exact ⟨by rw [e1]; show some (Value.int (g 0)) = some (Value.int x); rw [e2], g, rfl⟩
def r_ok1 (v : Int32) : Prop := v = 104 ∨ v = 110 ∨ v = 107
theorem r_ok1_n {v : Int32} (h : r_ok1 v) : v = nI v.toNatClampNeg ∧ v.toNatClampNeg < 128 := by
  rcases h with rfl | rfl | rfl <;> exact ⟨rfl, by decide⟩
theorem m_wk1_loop {Z : Nat → Int32} {F : Nat → Nat → Int32} {n : Nat} (hn : F 0 161 = nI n) (hn62 : n ≤ 62) {Q : Option Value → px_H → Prop} : ∀ (m k : Nat) (st : List Int32) (g : Nat → Int32) (o5 o6 : Option Value), k + m = n → st.length ≤ k → zz_st g st → r_wf r_ok1 (fun k => F 0 (162 + 2 * k)) (fun k => F 0 (163 + 2 * k)) m k st.length → (∀ (x : Int32) (g : Nat → Int32) (o5 o6 : Option Value), (r_evs (fun v => F 6 v.toNatClampNeg) (fun k => F 0 (162 + 2 * k)) (fun k => F 0 (163 + 2 * k)) m k st) = [x] → g 0 = x → px_PW 1 pc_140 Q 163 [some (.ref 1000), some (.int 1), some (.int (nI 161)), some (.int (nI 1)), some (.int (nI n)), o5, o6] [] ([], px_MH Z (va_up F 7 g))) → px_PW 1 pc_140 Q 13 [some (.ref 1000), some (.int 1), some (.int (nI 161)), some (.int (nI st.length)), some (.int (nI k)), o5, o6] [] ([], px_MH Z (va_up F 7 g))
  | m, k, st, g, o5, o6, hk, hl, hs, hw, H => by
    refine px_PW.steps kt_140.2 4 rfl ?_
    refine px_PW.aldN kt_140.2 rfl rfl (n := 161) rfl (by decide) ?_
    rw [show (va_up F 7 g) 0 161 = nI n from hn]
    refine px_PW.steps kt_140.2 1 rfl ?_
    refine px_PW.br (fun c0 => ?_) (fun c0 => ?_)
    · have c0 : (nI n) ≤ (nI k) := of_decide_eq_true c0
      have c0 : n ≤ k := (nI_leI (a := n) (b := k) (by omega) (by omega)).mp c0
      obtain rfl : m = 0 := by omega
      obtain rfl : k = n := by omega
      have h1 : st.length = 1 := hw
      match st, h1, hs, H with
      | [x], _, hs, H => exact H x g _ _ rfl hs.1
    · have c0 : ¬ ((nI n) ≤ (nI k)) := of_decide_eq_false c0
      have c0 : ¬ (n ≤ k) := fun q => c0 ((nI_leI (a := n) (b := k) (by omega) (by omega)).mpr q)
      obtain ⟨m2, rfl⟩ : ∃ m2, m = m2 + 1 := ⟨m - 1, by omega⟩
      refine px_PW.steps kt_140.2 9 rfl ?_
      refine px_PW.aldN kt_140.2 rfl rfl (n := 162 + 2 * k) (zz_wi 162 k) (by omega) ?_
      refine px_PW.steps kt_140.2 10 rfl ?_
      refine px_PW.aldN kt_140.2 rfl rfl (n := 163 + 2 * k) (zz_wi 163 k) (by omega) ?_
      refine px_PW.steps kt_140.2 3 rfl ?_
      refine px_PW.br (fun c1 => ?_) (fun c1 => ?_)
      · have c1 : (F 0 (162 + 2 * k)) = 0 := of_decide_eq_true c1
        refine px_PW.steps kt_140.2 5 rfl ?_
        refine px_PW.br (fun c2 => ?_) (fun c2 => ?_)
        · have c2 : ¬ ((F 0 (162 + 2 * k)) = 0) := of_decide_eq_false (px_nt c2)
          exact absurd c1 c2
        · have c2 : (F 0 (162 + 2 * k)) = 0 := of_decide_eq_true (px_nf c2)
          refine px_PW.steps kt_140.2 2 rfl ?_
          refine ms_7q kt_140.2 rfl (n := st.length) rfl (by omega) ?_
          refine px_PW.steps kt_140.2 4 rfl ?_
          have e0 : r_evc (fun v => F 6 v.toNatClampNeg) (F 0 (162 + 2 * k)) (F 0 (163 + 2 * k)) st = ((F 0 (163 + 2 * k)) :: st) := if_pos c1
          have g2 := m_wk1_loop hn hn62 (Z := Z) (F := F) (Q := Q) m2 (k + 1) ((F 0 (163 + 2 * k)) :: st) (upd g st.length (F 0 (163 + 2 * k))) (some (.int (F 0 (162 + 2 * k)))) (some (.int (F 0 (163 + 2 * k)))) (by omega) (by simp only [List.length_cons]; omega) (zz_st_push hs) (wz_0 (what := (fun k => F 0 (162 + 2 * k))) (v := (fun k => F 0 (163 + 2 * k))) hw c1) (fun x9 g9 o5 o6 e9 h9 => H x9 g9 o5 o6 (by rw [← e9]; show r_evs (fun v => F 6 v.toNatClampNeg) (fun k => F 0 (162 + 2 * k)) (fun k => F 0 (163 + 2 * k)) m2 (k + 1) (r_evc (fun v => F 6 v.toNatClampNeg) (F 0 (162 + 2 * k)) (F 0 (163 + 2 * k)) st) = _; rw [e0]) h9)
          refine px_PW.lc (lv' := [some (.ref 1000), some (.int 1), some (.int (nI 161)), some (.int (nI (st.length + 1))), some (.int (nI (k + 1))), (some (.int (F 0 (162 + 2 * k)))), (some (.int (F 0 (163 + 2 * k))))]) (show ([some (.ref 1000), some (.int 1), some (.int (nI 161)), some (.int (nI st.length + 1)), some (.int (nI k + 1)), (some (.int (F 0 (162 + 2 * k)))), (some (.int (F 0 (163 + 2 * k))))] : px_L) = _ from by rw [← nI_succ k, ← nI_succ st.length]) ?_
          exact g2
      · have c1 : ¬ ((F 0 (162 + 2 * k)) = 0) := of_decide_eq_false c1
        refine px_PW.steps kt_140.2 3 rfl ?_
        refine px_PW.br (fun c3 => ?_) (fun c3 => ?_)
        · have c3 : ¬ ((F 0 (162 + 2 * k)) = 1) := of_decide_eq_false (px_nt c3)
          refine px_PW.steps kt_140.2 3 rfl ?_
          refine px_PW.br (fun c4 => ?_) (fun c4 => ?_)
          · have c4 : ¬ ((F 0 (162 + 2 * k)) = 2) := of_decide_eq_false (px_nt c4)
            have hd := wz_3 (what := (fun k => F 0 (162 + 2 * k))) (v := (fun k => F 0 (163 + 2 * k))) hw c1 c3 c4
            obtain ⟨y, x, r, rfl⟩ : ∃ y x r, st = y :: x :: r := by
              match st, hd.1 with
              | y :: x :: r, _ => exact ⟨y, x, r, rfl⟩
            refine px_PW.steps kt_140.2 12 rfl ?_
            refine px_PW.aldN kt_140.2 rfl rfl (n := r.length) (zz_d2 r.length) (by have := hl; simp only [List.length_cons] at this; omega) ?_
            rw [show (va_up F 7 g) 7 r.length = x from hs.2.1]
            refine px_PW.steps kt_140.2 3 rfl ?_
            refine px_PW.aldN kt_140.2 rfl rfl (n := r.length + 1) (zz_d1 r.length) (by have := hl; simp only [List.length_cons] at this; omega) ?_
            rw [show (va_up F 7 g) 7 (r.length + 1) = y from hs.1]
            refine px_PW.callS kt_140.2 rfl rfl rfl (mm_join _ _ _ _) (by decide) (fun v h1 q => ?_)
            obtain ⟨rfl, rfl⟩ := q
            refine ms_7q kt_140.2 rfl (n := r.length) (zz_d2 r.length) (by have := hl; simp only [List.length_cons] at this; omega) ?_
            refine px_PW.steps kt_140.2 2 rfl ?_
            have e0 : r_evc (fun v => F 6 v.toNatClampNeg) (F 0 (162 + 2 * k)) (F 0 (163 + 2 * k)) (y :: x :: r) = (s_mjoin (F 0 (163 + 2 * k)) x y :: r) := (if_neg c1).trans ((if_neg c3).trans (if_neg c4))
            have g2 := m_wk1_loop hn hn62 (Z := Z) (F := F) (Q := Q) m2 (k + 1) (s_mjoin (F 0 (163 + 2 * k)) x y :: r) (upd g r.length (s_mjoin (F 0 (163 + 2 * k)) x y)) (some (.int (F 0 (162 + 2 * k)))) (some (.int (F 0 (163 + 2 * k)))) (by omega) (by have := hl; simp only [List.length_cons] at this ⊢; omega) (zz_st_push hs.2.2) hd.2 (fun x9 g9 o5 o6 e9 h9 => H x9 g9 o5 o6 (by rw [← e9]; show r_evs (fun v => F 6 v.toNatClampNeg) (fun k => F 0 (162 + 2 * k)) (fun k => F 0 (163 + 2 * k)) m2 (k + 1) (r_evc (fun v => F 6 v.toNatClampNeg) (F 0 (162 + 2 * k)) (F 0 (163 + 2 * k)) (y :: x :: r)) = _; rw [e0]) h9)
            refine px_PW.lc (lv' := [some (.ref 1000), some (.int 1), some (.int (nI 161)), some (.int (nI (r.length + 1))), some (.int (nI (k + 1))), (some (.int (F 0 (162 + 2 * k)))), (some (.int (F 0 (163 + 2 * k))))]) (show ([some (.ref 1000), some (.int 1), some (.int (nI 161)), some (.int (nI (y :: x :: r).length + -1)), some (.int (nI k + 1)), (some (.int (F 0 (162 + 2 * k)))), (some (.int (F 0 (163 + 2 * k))))] : px_L) = _ from by rw [← nI_succ k, show nI (y :: x :: r).length + -1 = nI (r.length + 1) from zz_dec (r.length + 1)]) ?_
            exact g2
          · have c4 : (F 0 (162 + 2 * k)) = 2 := of_decide_eq_true (px_nf c4)
            have hd := wz_2 (what := (fun k => F 0 (162 + 2 * k))) (v := (fun k => F 0 (163 + 2 * k))) hw c4
            obtain ⟨y, r, rfl⟩ : ∃ y r, st = y :: r := by
              cases st with
              | nil => exact absurd hd.1 (by decide)
              | cons y r => exact ⟨y, r, rfl⟩
            refine px_PW.steps kt_140.2 10 rfl ?_
            refine px_PW.aldN kt_140.2 rfl rfl (n := r.length) (nI_pred r.length) (by have := hl; simp only [List.length_cons] at this; omega) ?_
            rw [show (va_up F 7 g) 7 r.length = y from hs.1]
            refine px_PW.steps kt_140.2 1 rfl ?_
            refine px_PW.br (fun c5 => ?_) (fun c5 => ?_)
            · have c5 : ¬ (y = 0) := of_decide_eq_false (px_nt c5)
              refine px_PW.steps kt_140.2 1 rfl ?_
              refine ms_7q kt_140.2 rfl (n := r.length) (nI_pred r.length) (by have := hl; simp only [List.length_cons] at this; omega) ?_
              refine px_PW.steps kt_140.2 3 rfl ?_
              have e0 : r_evc (fun v => F 6 v.toNatClampNeg) (F 0 (162 + 2 * k)) (F 0 (163 + 2 * k)) (y :: r) = ((0 : Int32) :: r) := (if_neg c1).trans ((if_neg c3).trans ((if_pos c4).trans (congrArg (fun z : Int32 => z :: r) (if_neg c5))))
              have g2 := m_wk1_loop hn hn62 (Z := Z) (F := F) (Q := Q) m2 (k + 1) ((0 : Int32) :: r) (upd g r.length 0) (some (.int (F 0 (162 + 2 * k)))) (some (.int (F 0 (163 + 2 * k)))) (by omega) (by have := hl; simp only [List.length_cons] at this ⊢; omega) (zz_st_push hs.2) hd.2 (fun x9 g9 o5 o6 e9 h9 => H x9 g9 o5 o6 (by rw [← e9]; show r_evs (fun v => F 6 v.toNatClampNeg) (fun k => F 0 (162 + 2 * k)) (fun k => F 0 (163 + 2 * k)) m2 (k + 1) (r_evc (fun v => F 6 v.toNatClampNeg) (F 0 (162 + 2 * k)) (F 0 (163 + 2 * k)) (y :: r)) = _; rw [e0]) h9)
              refine px_PW.lc (lv' := [some (.ref 1000), some (.int 1), some (.int (nI 161)), some (.int (nI (r.length + 1))), some (.int (nI (k + 1))), (some (.int (F 0 (162 + 2 * k)))), (some (.int (F 0 (163 + 2 * k))))]) (show ([some (.ref 1000), some (.int 1), some (.int (nI 161)), some (.int (nI (y :: r).length)), some (.int (nI k + 1)), (some (.int (F 0 (162 + 2 * k)))), (some (.int (F 0 (163 + 2 * k))))] : px_L) = _ from by rw [← nI_succ k]; rfl) ?_
              exact g2
            · have c5 : y = 0 := of_decide_eq_true (px_nf c5)
              refine px_PW.steps kt_140.2 2 rfl ?_
              refine ms_7q kt_140.2 rfl (n := r.length) (nI_pred r.length) (by have := hl; simp only [List.length_cons] at this; omega) ?_
              refine px_PW.steps kt_140.2 3 rfl ?_
              have e0 : r_evc (fun v => F 6 v.toNatClampNeg) (F 0 (162 + 2 * k)) (F 0 (163 + 2 * k)) (y :: r) = ((1 : Int32) :: r) := (if_neg c1).trans ((if_neg c3).trans ((if_pos c4).trans (congrArg (fun z : Int32 => z :: r) (if_pos c5))))
              have g2 := m_wk1_loop hn hn62 (Z := Z) (F := F) (Q := Q) m2 (k + 1) ((1 : Int32) :: r) (upd g r.length 1) (some (.int (F 0 (162 + 2 * k)))) (some (.int (F 0 (163 + 2 * k)))) (by omega) (by have := hl; simp only [List.length_cons] at this ⊢; omega) (zz_st_push hs.2) hd.2 (fun x9 g9 o5 o6 e9 h9 => H x9 g9 o5 o6 (by rw [← e9]; show r_evs (fun v => F 6 v.toNatClampNeg) (fun k => F 0 (162 + 2 * k)) (fun k => F 0 (163 + 2 * k)) m2 (k + 1) (r_evc (fun v => F 6 v.toNatClampNeg) (F 0 (162 + 2 * k)) (F 0 (163 + 2 * k)) (y :: r)) = _; rw [e0]) h9)
              refine px_PW.lc (lv' := [some (.ref 1000), some (.int 1), some (.int (nI 161)), some (.int (nI (r.length + 1))), some (.int (nI (k + 1))), (some (.int (F 0 (162 + 2 * k)))), (some (.int (F 0 (163 + 2 * k))))]) (show ([some (.ref 1000), some (.int 1), some (.int (nI 161)), some (.int (nI (y :: r).length)), some (.int (nI k + 1)), (some (.int (F 0 (162 + 2 * k)))), (some (.int (F 0 (163 + 2 * k))))] : px_L) = _ from by rw [← nI_succ k]; rfl) ?_
              exact g2
        · have c3 : (F 0 (162 + 2 * k)) = 1 := of_decide_eq_true (px_nf c3)
          refine px_PW.steps kt_140.2 5 rfl ?_
          refine px_PW.br (fun c6 => ?_) (fun c6 => ?_)
          · have c6 : ¬ ((F 0 (162 + 2 * k)) = 0) := of_decide_eq_false (px_nt c6)
            have hnm : r_ok1 (F 0 (163 + 2 * k)) := wz_n (what := (fun k => F 0 (162 + 2 * k))) (v := (fun k => F 0 (163 + 2 * k))) hw c3
            refine px_PW.steps kt_140.2 3 rfl ?_
            refine px_PW.aldN kt_140.2 rfl rfl (n := (F 0 (163 + 2 * k)).toNatClampNeg) (r_ok1_n hnm).1 (r_ok1_n hnm).2 ?_
            refine ms_7q kt_140.2 rfl (n := st.length) rfl (by omega) ?_
            refine px_PW.steps kt_140.2 4 rfl ?_
            have e0 : r_evc (fun v => F 6 v.toNatClampNeg) (F 0 (162 + 2 * k)) (F 0 (163 + 2 * k)) st = (F 6 (F 0 (163 + 2 * k)).toNatClampNeg :: st) := (if_neg c1).trans (if_pos c3)
            have g2 := m_wk1_loop hn hn62 (Z := Z) (F := F) (Q := Q) m2 (k + 1) (F 6 (F 0 (163 + 2 * k)).toNatClampNeg :: st) (upd g st.length (F 6 (F 0 (163 + 2 * k)).toNatClampNeg)) (some (.int (F 0 (162 + 2 * k)))) (some (.int (F 0 (163 + 2 * k)))) (by omega) (by simp only [List.length_cons]; omega) (zz_st_push hs) (wz_1 (what := (fun k => F 0 (162 + 2 * k))) (v := (fun k => F 0 (163 + 2 * k))) hw c3) (fun x9 g9 o5 o6 e9 h9 => H x9 g9 o5 o6 (by rw [← e9]; show r_evs (fun v => F 6 v.toNatClampNeg) (fun k => F 0 (162 + 2 * k)) (fun k => F 0 (163 + 2 * k)) m2 (k + 1) (r_evc (fun v => F 6 v.toNatClampNeg) (F 0 (162 + 2 * k)) (F 0 (163 + 2 * k)) st) = _; rw [e0]) h9)
            refine px_PW.lc (lv' := [some (.ref 1000), some (.int 1), some (.int (nI 161)), some (.int (nI (st.length + 1))), some (.int (nI (k + 1))), (some (.int (F 0 (162 + 2 * k)))), (some (.int (F 0 (163 + 2 * k))))]) (show ([some (.ref 1000), some (.int 1), some (.int (nI 161)), some (.int (nI st.length + 1)), some (.int (nI k + 1)), (some (.int (F 0 (162 + 2 * k)))), (some (.int (F 0 (163 + 2 * k))))] : px_L) = _ from by rw [← nI_succ k, ← nI_succ st.length]) ?_
            exact g2
          · have c6 : (F 0 (162 + 2 * k)) = 0 := of_decide_eq_true (px_nf c6)
            exact absurd c6 c1
theorem mm_wk1 {Z : Nat → Int32} {F : Nat → Nat → Int32} {n : Nat} (hn : F 0 161 = nI n) (hn62 : n ≤ 62) (hw : r_wf r_ok1 (fun k => F 0 (162 + 2 * k)) (fun k => F 0 (163 + 2 * k)) n 0 0) : px_PM 2 140 [.ref 1000, .int 1] ([], px_MH Z F) (fun r h' => r = some (.int ((r_evs (fun v => F 6 v.toNatClampNeg) (fun k => F 0 (162 + 2 * k)) (fun k => F 0 (163 + 2 * k)) n 0 []).headD 0)) ∧ ∃ g : Nat → Int32, h' = ([], px_MH Z (va_up F 7 g))) := by
  refine px_PM.start (nL := 7) (code := pc_140) rfl rfl ?_
  refine px_PW.steps kt_140.2 10 rfl ?_
  refine px_PW.hp (h' := ([], px_MH Z (va_up F 7 (F 7)))) (by rw [px_up_id]) ?_
  refine m_wk1_loop hn hn62 n 0 [] (F 7) none none (by omega) (Nat.le_refl 0) trivial hw (fun x g o5 o6 e1 e2 => ?_)
  refine px_PW.steps kt_140.2 4 rfl ?_
  refine px_PW.ret kt_140.2 rfl rfl ?_
  exact ⟨by rw [e1]; show some (Value.int (g 0)) = some (Value.int x); rw [e2], g, rfl⟩
