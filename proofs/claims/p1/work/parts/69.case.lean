theorem lw_1 {L : Nat} {xs : Nat → Int32} {i : Nat} (hi : i + 6 ≤ L) (hL : L ≤ 3072) {Z N Zm : Nat → Int32} {F G : Nat → Nat → Int32} (h : RR Z N F Zm G) {Q : Option Value → px_H → Prop} (k : ∀ (Z' N' : Nat → Int32) (F' : Nat → Nat → Int32) (Zm' : Nat → Int32) (G' : Nat → Nat → Int32), RR Z' N' F' Zm' G' → px_PW 60 (pc_L L xs) Q 1317 [some (.ref 3004), some (.ref 0), some (.ref 1000), some (.int (nI i))] [] (px_CH Z' N' F', px_MH Zm' G')) : px_PW 60 (pc_L L xs) Q 229 [some (.ref 3004), some (.ref 0), some (.ref 1000), some (.int (nI i))] [] (px_CH Z N F, px_MH Zm G) := by
  refine px_PW.steps (frL L xs) 5 rfl ?_
  refine px_PW.siald (frL L xs) rfl (n := i + 1) (nI_addB (a := i) (b := 1) (by omega)) (by omega) (by omega) ?_
  obtain ⟨a, b, Z', N', F', Zm', G', p1, p2, hR, he⟩ := px_pair (st_wallIs (xs (i + 1))) h
  refine px_PW.callV (frL L xs) rfl rfl rfl rfl p1 (by decide) (fun v h1 q => ?_)
  obtain ⟨rfl, rfl⟩ := q
  refine px_PW.steps (frL L xs) 5 rfl ?_
  refine px_PW.siald (frL L xs) rfl (n := i + 1) (nI_addB (a := i) (b := 1) (by omega)) (by omega) (by omega) ?_
  refine px_PW.callV (frL L xs) rfl rfl rfl rfl p2 (by decide) (fun v h1 q => ?_)
  obtain ⟨rfl, rfl⟩ := q
  have e := he trivial
  subst e
  refine px_PW.steps (frL L xs) 1 rfl ?_
  refine px_PW.br (fun _ => k _ _ _ _ _ hR) (fun q => ?_)
  exact absurd rfl (of_decide_eq_false q)
