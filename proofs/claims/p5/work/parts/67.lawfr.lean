theorem frT_node {k : Nat} {a b : Nat → Option px_A} (ha : px_frT a) (hb : px_frT b) : px_frT (px_node k a b) := by
  intro pc act h
  unfold px_node at h
  cases hc : Nat.blt pc k with
  | true => rw [hc] at h; exact ha pc act h
  | false => rw [hc] at h; exact hb pc act h
theorem frT_leaf {k : Nat} {a : px_A} (hf : px_fr a) : px_frT (px_leaf k a) := by
  intro pc act h
  unfold px_leaf at h
  cases hc : Nat.beq pc k with
  | true => rw [hc] at h; cases h; exact hf
  | false => rw [hc] at h; cases h
theorem fr_siald {L : Nat} {xs : Nat → Int32} : px_fr (px_siald L xs) := by
  intro b X cb cb' _ pc lv st h r hi hr
  unfold px_siald at hr ⊢
  split at hr
  · next i a r0 =>
    cases hb : (Nat.beq a 3004 && px_inb i L) with
    | true => simp only [hb, cond_true] at hr ⊢; cases hr; exact ⟨rfl, hi⟩
    | false => rw [hb] at hr; cases hr
  · cases hr
theorem fr_salen {L : Nat} : px_fr (px_salen L) := by
  intro b X cb cb' _ pc lv st h r hi hr
  unfold px_salen at hr ⊢
  split at hr
  · next a r0 =>
    cases hb : (Nat.beq a 3004) with
    | true => simp only [hb, cond_true] at hr ⊢; cases hr; exact ⟨rfl, hi⟩
    | false => rw [hb] at hr; cases hr
  · cases hr
theorem frL_0 (L : Nat) (xs : Nat → Int32) : px_frT (pcL_0 L xs) := by
  unfold pcL_0
  repeat' (first | refine frT_leaf ?_ | refine frT_node ?_ ?_)
  all_goals (first | exact fr_ald | exact fr_ild | exact fr_siald | exact fr_pushi | exact fr_bin | exact fr_callV | exact fr_zret | exact fr_icmp | exact fr_goto | exact fr_i2l | exact fr_pushl | exact fr_lbin | exact fr_lsh | exact fr_ist | exact fr_iinc | exact fr_salen | exact fr_tsw | exact fr_popi)
theorem frL_1 (L : Nat) (xs : Nat → Int32) : px_frT (pcL_1 L xs) := by
  unfold pcL_1
  repeat' (first | refine frT_leaf ?_ | refine frT_node ?_ ?_)
  all_goals (first | exact fr_ald | exact fr_ild | exact fr_siald | exact fr_pushi | exact fr_bin | exact fr_callV | exact fr_zret | exact fr_icmp | exact fr_goto | exact fr_i2l | exact fr_pushl | exact fr_lbin | exact fr_lsh | exact fr_ist | exact fr_iinc | exact fr_salen | exact fr_tsw | exact fr_popi)
theorem frL_2 (L : Nat) (xs : Nat → Int32) : px_frT (pcL_2 L xs) := by
  unfold pcL_2
  repeat' (first | refine frT_leaf ?_ | refine frT_node ?_ ?_)
  all_goals (first | exact fr_ald | exact fr_ild | exact fr_siald | exact fr_pushi | exact fr_bin | exact fr_callV | exact fr_zret | exact fr_icmp | exact fr_goto | exact fr_i2l | exact fr_pushl | exact fr_lbin | exact fr_lsh | exact fr_ist | exact fr_iinc | exact fr_salen | exact fr_tsw | exact fr_popi)
theorem frL_3 (L : Nat) (xs : Nat → Int32) : px_frT (pcL_3 L xs) := by
  unfold pcL_3
  repeat' (first | refine frT_leaf ?_ | refine frT_node ?_ ?_)
  all_goals (first | exact fr_ald | exact fr_ild | exact fr_siald | exact fr_pushi | exact fr_bin | exact fr_callV | exact fr_zret | exact fr_icmp | exact fr_goto | exact fr_i2l | exact fr_pushl | exact fr_lbin | exact fr_lsh | exact fr_ist | exact fr_iinc | exact fr_salen | exact fr_tsw | exact fr_popi)
theorem frL_4 (L : Nat) (xs : Nat → Int32) : px_frT (pcL_4 L xs) := by
  unfold pcL_4
  repeat' (first | refine frT_leaf ?_ | refine frT_node ?_ ?_)
  all_goals (first | exact fr_ald | exact fr_ild | exact fr_siald | exact fr_pushi | exact fr_bin | exact fr_callV | exact fr_zret | exact fr_icmp | exact fr_goto | exact fr_i2l | exact fr_pushl | exact fr_lbin | exact fr_lsh | exact fr_ist | exact fr_iinc | exact fr_salen | exact fr_tsw | exact fr_popi)
theorem frL_5 (L : Nat) (xs : Nat → Int32) : px_frT (pcL_5 L xs) := by
  unfold pcL_5
  repeat' (first | refine frT_leaf ?_ | refine frT_node ?_ ?_)
  all_goals (first | exact fr_ald | exact fr_ild | exact fr_siald | exact fr_pushi | exact fr_bin | exact fr_callV | exact fr_zret | exact fr_icmp | exact fr_goto | exact fr_i2l | exact fr_pushl | exact fr_lbin | exact fr_lsh | exact fr_ist | exact fr_iinc | exact fr_salen | exact fr_tsw | exact fr_popi)
theorem frL_6 (L : Nat) (xs : Nat → Int32) : px_frT (pcL_6 L xs) := by
  unfold pcL_6
  repeat' (first | refine frT_leaf ?_ | refine frT_node ?_ ?_)
  all_goals (first | exact fr_ald | exact fr_ild | exact fr_siald | exact fr_pushi | exact fr_bin | exact fr_callV | exact fr_zret | exact fr_icmp | exact fr_goto | exact fr_i2l | exact fr_pushl | exact fr_lbin | exact fr_lsh | exact fr_ist | exact fr_iinc | exact fr_salen | exact fr_tsw | exact fr_popi)
theorem frL_7 (L : Nat) (xs : Nat → Int32) : px_frT (pcL_7 L xs) := by
  unfold pcL_7
  repeat' (first | refine frT_leaf ?_ | refine frT_node ?_ ?_)
  all_goals (first | exact fr_ald | exact fr_ild | exact fr_siald | exact fr_pushi | exact fr_bin | exact fr_callV | exact fr_zret | exact fr_icmp | exact fr_goto | exact fr_i2l | exact fr_pushl | exact fr_lbin | exact fr_lsh | exact fr_ist | exact fr_iinc | exact fr_salen | exact fr_tsw | exact fr_popi)
theorem frL (L : Nat) (xs : Nat → Int32) : px_frT (pc_L L xs) := frT_node (frT_node (frT_node (frL_0 L xs) (frL_1 L xs)) (frT_node (frL_2 L xs) (frL_3 L xs))) (frT_node (frT_node (frL_4 L xs) (frL_5 L xs)) (frT_node (frL_6 L xs) (frL_7 L xs)))
