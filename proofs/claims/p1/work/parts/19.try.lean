theorem cm_117 (v lo hi : Int32) (h : px_H) : px_PM 1 117 [.int v, .int lo, .int hi] h (fun r h' => r = some (.int (if lo ≤ v ∧ v ≤ hi then 1 else 0)) ∧ h' = h) := by
  refine px_PM.start (nL := 3) (code := pc_117) rfl rfl ?_
  refine px_PW.steps kt_117.2 3 rfl ?_
  refine px_PW.br (fun c0 => ?_) (fun c0 => ?_)
  · skip
    refine px_PW.steps kt_117.2 1 rfl ?_
    refine px_PW.ret kt_117.2 rfl rfl ?_
    simp_all
  · skip
    refine px_PW.steps kt_117.2 3 rfl ?_
    refine px_PW.br (fun c1 => ?_) (fun c1 => ?_)
    · skip
      refine px_PW.steps kt_117.2 1 rfl ?_
      refine px_PW.ret kt_117.2 rfl rfl ?_
      simp_all
    · skip
      refine px_PW.steps kt_117.2 2 rfl ?_
      refine px_PW.ret kt_117.2 rfl rfl ?_
      simp_all
