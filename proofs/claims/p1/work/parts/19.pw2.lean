/-- k steps, calls by a callback -/
def px_stepsG (cb : px_C) (code : Nat → Option px_A) : Nat → Nat → px_L → List Value → px_H → Option (Nat × px_L × List Value × px_H)
  | 0, pc, lv, st, h => some (pc, lv, st, h)
  | k + 1, pc, lv, st, h => match code pc with
    | none => none
    | some act => match act cb pc lv st h with
      | some (.inl (pc', lv', st', h')) => px_stepsG cb code k pc' lv' st' h'
      | _ => none
theorem px_PW.oneG {d d0 n0 : Nat} {code : Nat → Option px_A} {Q : Option Value → px_H → Prop} {pc pc' : Nat} {lv lv' : px_L} {st st' : List Value} {h h' : px_H} {act : px_A} (hd : d0 ≤ d) (hc : code pc = some act) (hs : act (px_run px_codes d0 n0) pc lv st h = some (.inl (pc', lv', st', h'))) (k : px_PW d code Q pc' lv' st' h') (hT : px_frT code) : px_PW d code Q pc lv st h := by
  obtain ⟨n, v, h1, e1, e2⟩ := k
  refine ⟨max n0 n + 1, v, h1, ?_, e2⟩
  unfold px_loop
  rw [hc]
  dsimp only
  rw [px_act_mono hT hc (cb' := px_run px_codes d (max n0 n + 1)) (fun j as h r q => px_mono hd (show n0 ≤ max n0 n + 1 by omega) q) hs]
  exact (px_fr_loop (b := none) (X := []) hT (px_codes_fr none [] (Nat.le_refl d) (show n ≤ max n0 n + 1 by omega)) n (max n0 n) pc' lv' st' h' v h1 (by omega) trivial e1).1
theorem px_PW.stepsG {d d0 n0 : Nat} {code : Nat → Option px_A} (hd : d0 ≤ d) (hT : px_frT code) {Q : Option Value → px_H → Prop} : ∀ (k : Nat) {pc pc' : Nat} {lv lv' : px_L} {st st' : List Value} {h h' : px_H}, px_stepsG (px_run px_codes d0 n0) code k pc lv st h = some (pc', lv', st', h') → px_PW d code Q pc' lv' st' h' → px_PW d code Q pc lv st h
  | 0, _, _, _, _, _, _, _, _, hs, k => by cases hs; exact k
  | m + 1, pc, pc', lv, lv', st, st', h, h', hs, k => by
    unfold px_stepsG at hs
    split at hs
    · cases hs
    · next act hact =>
      split at hs
      · next pc1 lv1 st1 h1 ha => exact px_PW.oneG hd hact ha (px_PW.stepsG hd hT m hs k) hT
      · cases hs
theorem cm_117 (v lo hi : Int32) (h : px_H) : px_PM 1 117 [.int v, .int lo, .int hi] h (fun r h' => r = some (.int (if lo ≤ v ∧ v ≤ hi then 1 else 0)) ∧ h' = h) := by
  refine px_PM.start (nL := 3) (code := pc_117) rfl rfl ?_
  refine px_PW.steps kt_117.2 3 rfl ?_
  refine px_PW.br (fun c0 => ?_) (fun c0 => ?_)
  · skip
    refine px_PW.steps kt_117.2 1 rfl ?_
    refine px_PW.ret kt_117.2 rfl rfl ?_
    simp_all
  · skip
    refine px_PW.steps kt_117.2 3 rfl ?_
    refine px_PW.br (fun c1 => ?_) (fun c1 => ?_)
    · skip
      refine px_PW.steps kt_117.2 1 rfl ?_
      refine px_PW.ret kt_117.2 rfl rfl ?_
      simp_all
    · skip
      refine px_PW.steps kt_117.2 2 rfl ?_
      refine px_PW.ret kt_117.2 rfl rfl ?_
      simp_all
theorem tst_is (Z N : Nat → Int32) (F : Nat → Nat → Int32) (h0 : N 0 = 7) : px_PM 3 87 [.ref 0, .int 1] (px_CH Z N F, []) (fun r h' => r = some (.int (F 0 1)) ∧ h' = (px_CH Z N F, [])) := by
  refine px_PM.start (nL := 2) (code := pc_87) rfl rfl ?_
  refine px_PW.steps kt_87.2 4 rfl ?_
  sorry
