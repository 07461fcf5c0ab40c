theorem lw_0 {L : Nat} {xs : Nat → Int32} {i : Nat} (hi : i + 6 ≤ L) (hL : L ≤ 3072) {Z N Zm : Nat → Int32} {F G : Nat → Nat → Int32} (h : RR Z N F Zm G) {Q : Option Value → px_H → Prop} (k : ∀ (Z' N' : Nat → Int32) (F' : Nat → Nat → Int32) (Zm' : Nat → Int32) (G' : Nat → Nat → Int32), RR Z' N' F' Zm' G' → px_PW 60 (pc_L L xs) Q 1317 [some (.ref 3004), some (.ref 0), some (.ref 1000), some (.int (nI i))] [] (px_CH Z' N' F', px_MH Zm' G')) : px_PW 60 (pc_L L xs) Q 196 [some (.ref 3004), some (.ref 0), some (.ref 1000), some (.int (nI i))] [] (px_CH Z N F, px_MH Zm G) := by
  obtain ⟨a, b, Z', N', F', Zm', G', p1, p2, hR, he⟩ := px_pair (st_wall (xs (i + 1)) (xs (i + 2))) h
  refine px_PW.steps (frL L xs) 5 rfl ?_
  refine px_PW.siald (frL L xs) rfl (n := i + 1) (nI_addB (a := i) (b := 1) (by omega)) (by omega) (by omega) ?_
  refine px_PW.steps (frL L xs) 4 rfl ?_
  refine px_PW.siald (frL L xs) rfl (n := i + 2) (nI_addB (a := i) (b := 2) (by omega)) (by omega) (by omega) ?_
  refine px_PW.callV (frL L xs) rfl rfl rfl rfl p1 (by decide) (fun v h1 q => ?_)
  obtain ⟨rfl, rfl⟩ := q
  refine px_PW.steps (frL L xs) 6 rfl ?_
  refine px_PW.siald (frL L xs) rfl (n := i + 1) (nI_addB (a := i) (b := 1) (by omega)) (by omega) (by omega) ?_
  refine px_PW.steps (frL L xs) 4 rfl ?_
  refine px_PW.siald (frL L xs) rfl (n := i + 2) (nI_addB (a := i) (b := 2) (by omega)) (by omega) (by omega) ?_
  refine px_PW.callV (frL L xs) rfl rfl rfl rfl p2 (by decide) (fun v h1 q => ?_)
  obtain ⟨rfl, rfl⟩ := q
  refine px_PW.steps (frL L xs) 2 rfl ?_
  exact k _ _ _ _ _ hR
theorem lw_1 {L : Nat} {xs : Nat → Int32} {i : Nat} (hi : i + 6 ≤ L) (hL : L ≤ 3072) {Z N Zm : Nat → Int32} {F G : Nat → Nat → Int32} (h : RR Z N F Zm G) {Q : Option Value → px_H → Prop} (k : ∀ (Z' N' : Nat → Int32) (F' : Nat → Nat → Int32) (Zm' : Nat → Int32) (G' : Nat → Nat → Int32), RR Z' N' F' Zm' G' → px_PW 60 (pc_L L xs) Q 1317 [some (.ref 3004), some (.ref 0), some (.ref 1000), some (.int (nI i))] [] (px_CH Z' N' F', px_MH Zm' G')) : px_PW 60 (pc_L L xs) Q 229 [some (.ref 3004), some (.ref 0), some (.ref 1000), some (.int (nI i))] [] (px_CH Z N F, px_MH Zm G) := by
  obtain ⟨a, b, Z', N', F', Zm', G', p1, p2, hR, he⟩ := px_pair (st_wallIs (xs (i + 1))) h
  refine px_PW.steps (frL L xs) 5 rfl ?_
  refine px_PW.siald (frL L xs) rfl (n := i + 1) (nI_addB (a := i) (b := 1) (by omega)) (by omega) (by omega) ?_
  refine px_PW.callV (frL L xs) rfl rfl rfl rfl p1 (by decide) (fun v h1 q => ?_)
  obtain ⟨rfl, rfl⟩ := q
  refine px_PW.steps (frL L xs) 6 rfl ?_
  refine px_PW.siald (frL L xs) rfl (n := i + 1) (nI_addB (a := i) (b := 1) (by omega)) (by omega) (by omega) ?_
  refine px_PW.callV (frL L xs) rfl rfl rfl rfl p2 (by decide) (fun v h1 q => ?_)
  obtain ⟨rfl, rfl⟩ := q
  refine px_PW.steps (frL L xs) 2 rfl ?_
  exact k _ _ _ _ _ hR
theorem lw_2 {L : Nat} {xs : Nat → Int32} {i : Nat} (hi : i + 6 ≤ L) (hL : L ≤ 3072) {Z N Zm : Nat → Int32} {F G : Nat → Nat → Int32} (h : RR Z N F Zm G) {Q : Option Value → px_H → Prop} (k : ∀ (Z' N' : Nat → Int32) (F' : Nat → Nat → Int32) (Zm' : Nat → Int32) (G' : Nat → Nat → Int32), RR Z' N' F' Zm' G' → px_PW 60 (pc_L L xs) Q 1317 [some (.ref 3004), some (.ref 0), some (.ref 1000), some (.int (nI i))] [] (px_CH Z' N' F', px_MH Zm' G')) : px_PW 60 (pc_L L xs) Q 252 [some (.ref 3004), some (.ref 0), some (.ref 1000), some (.int (nI i))] [] (px_CH Z N F, px_MH Zm G) := by
  obtain ⟨a, b, Z', N', F', Zm', G', p1, p2, hR, he⟩ := px_pair (st_begin (xs (i + 1))) h
  refine px_PW.steps (frL L xs) 5 rfl ?_
  refine px_PW.siald (frL L xs) rfl (n := i + 1) (nI_addB (a := i) (b := 1) (by omega)) (by omega) (by omega) ?_
  refine px_PW.callV (frL L xs) rfl rfl rfl rfl p1 (by decide) (fun v h1 q => ?_)
  obtain ⟨rfl, rfl⟩ := q
  refine px_PW.steps (frL L xs) 6 rfl ?_
  refine px_PW.siald (frL L xs) rfl (n := i + 1) (nI_addB (a := i) (b := 1) (by omega)) (by omega) (by omega) ?_
  refine px_PW.callV (frL L xs) rfl rfl rfl rfl p2 (by decide) (fun v h1 q => ?_)
  obtain ⟨rfl, rfl⟩ := q
  refine px_PW.steps (frL L xs) 2 rfl ?_
  exact k _ _ _ _ _ hR
theorem lw_3 {L : Nat} {xs : Nat → Int32} {i : Nat} (hi : i + 6 ≤ L) (hL : L ≤ 3072) {Z N Zm : Nat → Int32} {F G : Nat → Nat → Int32} (h : RR Z N F Zm G) {Q : Option Value → px_H → Prop} (k : ∀ (Z' N' : Nat → Int32) (F' : Nat → Nat → Int32) (Zm' : Nat → Int32) (G' : Nat → Nat → Int32), RR Z' N' F' Zm' G' → px_PW 60 (pc_L L xs) Q 1317 [some (.ref 3004), some (.ref 0), some (.ref 1000), some (.int (nI i))] [] (px_CH Z' N' F', px_MH Zm' G')) : px_PW 60 (pc_L L xs) Q 275 [some (.ref 3004), some (.ref 0), some (.ref 1000), some (.int (nI i))] [] (px_CH Z N F, px_MH Zm G) := by
  obtain ⟨a, b, Z', N', F', Zm', G', p1, p2, hR, he⟩ := px_pair (st_thing (xs (i + 1)) (xs (i + 2)) (xs (i + 3))) h
  refine px_PW.steps (frL L xs) 5 rfl ?_
  refine px_PW.siald (frL L xs) rfl (n := i + 1) (nI_addB (a := i) (b := 1) (by omega)) (by omega) (by omega) ?_
  refine px_PW.steps (frL L xs) 4 rfl ?_
  refine px_PW.siald (frL L xs) rfl (n := i + 2) (nI_addB (a := i) (b := 2) (by omega)) (by omega) (by omega) ?_
  refine px_PW.steps (frL L xs) 4 rfl ?_
  refine px_PW.siald (frL L xs) rfl (n := i + 3) (nI_addB (a := i) (b := 3) (by omega)) (by omega) (by omega) ?_
  refine px_PW.callV (frL L xs) rfl rfl rfl rfl p1 (by decide) (fun v h1 q => ?_)
  obtain ⟨rfl, rfl⟩ := q
  refine px_PW.steps (frL L xs) 6 rfl ?_
  refine px_PW.siald (frL L xs) rfl (n := i + 1) (nI_addB (a := i) (b := 1) (by omega)) (by omega) (by omega) ?_
  refine px_PW.steps (frL L xs) 4 rfl ?_
  refine px_PW.siald (frL L xs) rfl (n := i + 2) (nI_addB (a := i) (b := 2) (by omega)) (by omega) (by omega) ?_
  refine px_PW.steps (frL L xs) 4 rfl ?_
  refine px_PW.siald (frL L xs) rfl (n := i + 3) (nI_addB (a := i) (b := 3) (by omega)) (by omega) (by omega) ?_
  refine px_PW.callV (frL L xs) rfl rfl rfl rfl p2 (by decide) (fun v h1 q => ?_)
  obtain ⟨rfl, rfl⟩ := q
  refine px_PW.steps (frL L xs) 2 rfl ?_
  exact k _ _ _ _ _ hR
theorem lw_4 {L : Nat} {xs : Nat → Int32} {i : Nat} (hi : i + 6 ≤ L) (hL : L ≤ 3072) {Z N Zm : Nat → Int32} {F G : Nat → Nat → Int32} (h : RR Z N F Zm G) {Q : Option Value → px_H → Prop} (k : ∀ (Z' N' : Nat → Int32) (F' : Nat → Nat → Int32) (Zm' : Nat → Int32) (G' : Nat → Nat → Int32), RR Z' N' F' Zm' G' → px_PW 60 (pc_L L xs) Q 1317 [some (.ref 3004), some (.ref 0), some (.ref 1000), some (.int (nI i))] [] (px_CH Z' N' F', px_MH Zm' G')) : px_PW 60 (pc_L L xs) Q 318 [some (.ref 3004), some (.ref 0), some (.ref 1000), some (.int (nI i))] [] (px_CH Z N F, px_MH Zm G) := by
  obtain ⟨a, b, Z', N', F', Zm', G', p1, p2, hR, he⟩ := px_pair (st_thingIs (xs (i + 1)) (xs (i + 2))) h
  refine px_PW.steps (frL L xs) 5 rfl ?_
  refine px_PW.siald (frL L xs) rfl (n := i + 1) (nI_addB (a := i) (b := 1) (by omega)) (by omega) (by omega) ?_
  refine px_PW.steps (frL L xs) 4 rfl ?_
  refine px_PW.siald (frL L xs) rfl (n := i + 2) (nI_addB (a := i) (b := 2) (by omega)) (by omega) (by omega) ?_
  refine px_PW.callV (frL L xs) rfl rfl rfl rfl p1 (by decide) (fun v h1 q => ?_)
  obtain ⟨rfl, rfl⟩ := q
  refine px_PW.steps (frL L xs) 6 rfl ?_
  refine px_PW.siald (frL L xs) rfl (n := i + 1) (nI_addB (a := i) (b := 1) (by omega)) (by omega) (by omega) ?_
  refine px_PW.steps (frL L xs) 4 rfl ?_
  refine px_PW.siald (frL L xs) rfl (n := i + 2) (nI_addB (a := i) (b := 2) (by omega)) (by omega) (by omega) ?_
  refine px_PW.callV (frL L xs) rfl rfl rfl rfl p2 (by decide) (fun v h1 q => ?_)
  obtain ⟨rfl, rfl⟩ := q
  refine px_PW.steps (frL L xs) 2 rfl ?_
  exact k _ _ _ _ _ hR
theorem lw_5 {L : Nat} {xs : Nat → Int32} {i : Nat} (hi : i + 6 ≤ L) (hL : L ≤ 3072) {Z N Zm : Nat → Int32} {F G : Nat → Nat → Int32} (h : RR Z N F Zm G) {Q : Option Value → px_H → Prop} (k : ∀ (Z' N' : Nat → Int32) (F' : Nat → Nat → Int32) (Zm' : Nat → Int32) (G' : Nat → Nat → Int32), RR Z' N' F' Zm' G' → px_PW 60 (pc_L L xs) Q 1317 [some (.ref 3004), some (.ref 0), some (.ref 1000), some (.int (nI i))] [] (px_CH Z' N' F', px_MH Zm' G')) : px_PW 60 (pc_L L xs) Q 351 [some (.ref 3004), some (.ref 0), some (.ref 1000), some (.int (nI i))] [] (px_CH Z N F, px_MH Zm G) := by
  obtain ⟨a, b, Z', N', F', Zm', G', p1, p2, hR, he⟩ := px_pair (st_become (xs (i + 1)) (xs (i + 2))) h
  refine px_PW.steps (frL L xs) 5 rfl ?_
  refine px_PW.siald (frL L xs) rfl (n := i + 1) (nI_addB (a := i) (b := 1) (by omega)) (by omega) (by omega) ?_
  refine px_PW.steps (frL L xs) 4 rfl ?_
  refine px_PW.siald (frL L xs) rfl (n := i + 2) (nI_addB (a := i) (b := 2) (by omega)) (by omega) (by omega) ?_
  refine px_PW.callV (frL L xs) rfl rfl rfl rfl p1 (by decide) (fun v h1 q => ?_)
  obtain ⟨rfl, rfl⟩ := q
  refine px_PW.steps (frL L xs) 6 rfl ?_
  refine px_PW.siald (frL L xs) rfl (n := i + 1) (nI_addB (a := i) (b := 1) (by omega)) (by omega) (by omega) ?_
  refine px_PW.steps (frL L xs) 4 rfl ?_
  refine px_PW.siald (frL L xs) rfl (n := i + 2) (nI_addB (a := i) (b := 2) (by omega)) (by omega) (by omega) ?_
  refine px_PW.callV (frL L xs) rfl rfl rfl rfl p2 (by decide) (fun v h1 q => ?_)
  obtain ⟨rfl, rfl⟩ := q
  refine px_PW.steps (frL L xs) 2 rfl ?_
  exact k _ _ _ _ _ hR
theorem lw_6 {L : Nat} {xs : Nat → Int32} {i : Nat} (hi : i + 6 ≤ L) (hL : L ≤ 3072) {Z N Zm : Nat → Int32} {F G : Nat → Nat → Int32} (h : RR Z N F Zm G) {Q : Option Value → px_H → Prop} (k : ∀ (Z' N' : Nat → Int32) (F' : Nat → Nat → Int32) (Zm' : Nat → Int32) (G' : Nat → Nat → Int32), RR Z' N' F' Zm' G' → px_PW 60 (pc_L L xs) Q 1317 [some (.ref 3004), some (.ref 0), some (.ref 1000), some (.int (nI i))] [] (px_CH Z' N' F', px_MH Zm' G')) : px_PW 60 (pc_L L xs) Q 384 [some (.ref 3004), some (.ref 0), some (.ref 1000), some (.int (nI i))] [] (px_CH Z N F, px_MH Zm G) := by
  obtain ⟨a, b, Z', N', F', Zm', G', p1, p2, hR, he⟩ := px_pair (st_as (xs (i + 1)) (xs (i + 2))) h
  refine px_PW.steps (frL L xs) 5 rfl ?_
  refine px_PW.siald (frL L xs) rfl (n := i + 1) (nI_addB (a := i) (b := 1) (by omega)) (by omega) (by omega) ?_
  refine px_PW.steps (frL L xs) 4 rfl ?_
  refine px_PW.siald (frL L xs) rfl (n := i + 2) (nI_addB (a := i) (b := 2) (by omega)) (by omega) (by omega) ?_
  refine px_PW.callV (frL L xs) rfl rfl rfl rfl p1 (by decide) (fun v h1 q => ?_)
  obtain ⟨rfl, rfl⟩ := q
  refine px_PW.steps (frL L xs) 6 rfl ?_
  refine px_PW.siald (frL L xs) rfl (n := i + 1) (nI_addB (a := i) (b := 1) (by omega)) (by omega) (by omega) ?_
  refine px_PW.steps (frL L xs) 4 rfl ?_
  refine px_PW.siald (frL L xs) rfl (n := i + 2) (nI_addB (a := i) (b := 2) (by omega)) (by omega) (by omega) ?_
  refine px_PW.callV (frL L xs) rfl rfl rfl rfl p2 (by decide) (fun v h1 q => ?_)
  obtain ⟨rfl, rfl⟩ := q
  refine px_PW.steps (frL L xs) 2 rfl ?_
  exact k _ _ _ _ _ hR
theorem lw_7 {L : Nat} {xs : Nat → Int32} {i : Nat} (hi : i + 6 ≤ L) (hL : L ≤ 3072) {Z N Zm : Nat → Int32} {F G : Nat → Nat → Int32} (h : RR Z N F Zm G) {Q : Option Value → px_H → Prop} (k : ∀ (Z' N' : Nat → Int32) (F' : Nat → Nat → Int32) (Zm' : Nat → Int32) (G' : Nat → Nat → Int32), RR Z' N' F' Zm' G' → px_PW 60 (pc_L L xs) Q 1317 [some (.ref 3004), some (.ref 0), some (.ref 1000), some (.int (nI i))] [] (px_CH Z' N' F', px_MH Zm' G')) : px_PW 60 (pc_L L xs) Q 417 [some (.ref 3004), some (.ref 0), some (.ref 1000), some (.int (nI i))] [] (px_CH Z N F, px_MH Zm G) := by
  obtain ⟨a, b, Z', N', F', Zm', G', p1, p2, hR, he⟩ := px_pair (st_hang (xs (i + 1)) (xs (i + 2))) h
  refine px_PW.steps (frL L xs) 5 rfl ?_
  refine px_PW.siald (frL L xs) rfl (n := i + 1) (nI_addB (a := i) (b := 1) (by omega)) (by omega) (by omega) ?_
  refine px_PW.steps (frL L xs) 4 rfl ?_
  refine px_PW.siald (frL L xs) rfl (n := i + 2) (nI_addB (a := i) (b := 2) (by omega)) (by omega) (by omega) ?_
  refine px_PW.callV (frL L xs) rfl rfl rfl rfl p1 (by decide) (fun v h1 q => ?_)
  obtain ⟨rfl, rfl⟩ := q
  refine px_PW.steps (frL L xs) 6 rfl ?_
  refine px_PW.siald (frL L xs) rfl (n := i + 1) (nI_addB (a := i) (b := 1) (by omega)) (by omega) (by omega) ?_
  refine px_PW.steps (frL L xs) 4 rfl ?_
  refine px_PW.siald (frL L xs) rfl (n := i + 2) (nI_addB (a := i) (b := 2) (by omega)) (by omega) (by omega) ?_
  refine px_PW.callV (frL L xs) rfl rfl rfl rfl p2 (by decide) (fun v h1 q => ?_)
  obtain ⟨rfl, rfl⟩ := q
  refine px_PW.steps (frL L xs) 2 rfl ?_
  exact k _ _ _ _ _ hR
theorem lw_8 {L : Nat} {xs : Nat → Int32} {i : Nat} (hi : i + 6 ≤ L) (hL : L ≤ 3072) {Z N Zm : Nat → Int32} {F G : Nat → Nat → Int32} (h : RR Z N F Zm G) {Q : Option Value → px_H → Prop} (k : ∀ (Z' N' : Nat → Int32) (F' : Nat → Nat → Int32) (Zm' : Nat → Int32) (G' : Nat → Nat → Int32), RR Z' N' F' Zm' G' → px_PW 60 (pc_L L xs) Q 1317 [some (.ref 3004), some (.ref 0), some (.ref 1000), some (.int (nI i))] [] (px_CH Z' N' F', px_MH Zm' G')) : px_PW 60 (pc_L L xs) Q 450 [some (.ref 3004), some (.ref 0), some (.ref 1000), some (.int (nI i))] [] (px_CH Z N F, px_MH Zm G) := by
  obtain ⟨a, b, Z', N', F', Zm', G', p1, p2, hR, he⟩ := px_pair (st_feed ((xs (i + 1)).toInt64 <<< ((32 : Int32).toInt64 &&& 63) ||| ((xs (i + 2)).toInt64 &&& (4294967295 : Int64))) (xs (i + 3))) h
  refine px_PW.steps (frL L xs) 5 rfl ?_
  refine px_PW.siald (frL L xs) rfl (n := i + 1) (nI_addB (a := i) (b := 1) (by omega)) (by omega) (by omega) ?_
  refine px_PW.steps (frL L xs) 7 rfl ?_
  refine px_PW.siald (frL L xs) rfl (n := i + 2) (nI_addB (a := i) (b := 2) (by omega)) (by omega) (by omega) ?_
  refine px_PW.steps (frL L xs) 8 rfl ?_
  refine px_PW.siald (frL L xs) rfl (n := i + 3) (nI_addB (a := i) (b := 3) (by omega)) (by omega) (by omega) ?_
  refine px_PW.callV (frL L xs) rfl rfl rfl rfl p1 (by decide) (fun v h1 q => ?_)
  obtain ⟨rfl, rfl⟩ := q
  refine px_PW.steps (frL L xs) 6 rfl ?_
  refine px_PW.siald (frL L xs) rfl (n := i + 1) (nI_addB (a := i) (b := 1) (by omega)) (by omega) (by omega) ?_
  refine px_PW.steps (frL L xs) 7 rfl ?_
  refine px_PW.siald (frL L xs) rfl (n := i + 2) (nI_addB (a := i) (b := 2) (by omega)) (by omega) (by omega) ?_
  refine px_PW.steps (frL L xs) 8 rfl ?_
  refine px_PW.siald (frL L xs) rfl (n := i + 3) (nI_addB (a := i) (b := 3) (by omega)) (by omega) (by omega) ?_
  refine px_PW.callV (frL L xs) rfl rfl rfl rfl p2 (by decide) (fun v h1 q => ?_)
  obtain ⟨rfl, rfl⟩ := q
  refine px_PW.steps (frL L xs) 2 rfl ?_
  exact k _ _ _ _ _ hR
theorem lw_9 {L : Nat} {xs : Nat → Int32} {i : Nat} (hi : i + 6 ≤ L) (hL : L ≤ 3072) {Z N Zm : Nat → Int32} {F G : Nat → Nat → Int32} (h : RR Z N F Zm G) {Q : Option Value → px_H → Prop} (k : ∀ (Z' N' : Nat → Int32) (F' : Nat → Nat → Int32) (Zm' : Nat → Int32) (G' : Nat → Nat → Int32), RR Z' N' F' Zm' G' → px_PW 60 (pc_L L xs) Q 1317 [some (.ref 3004), some (.ref 0), some (.ref 1000), some (.int (nI i))] [] (px_CH Z' N' F', px_MH Zm' G')) : px_PW 60 (pc_L L xs) Q 513 [some (.ref 3004), some (.ref 0), some (.ref 1000), some (.int (nI i))] [] (px_CH Z N F, px_MH Zm G) := by
  obtain ⟨a, b, Z', N', F', Zm', G', p1, p2, hR, he⟩ := px_pair (st_textT (xs (i + 1))) h
  refine px_PW.steps (frL L xs) 5 rfl ?_
  refine px_PW.siald (frL L xs) rfl (n := i + 1) (nI_addB (a := i) (b := 1) (by omega)) (by omega) (by omega) ?_
  refine px_PW.callV (frL L xs) rfl rfl rfl rfl p1 (by decide) (fun v h1 q => ?_)
  obtain ⟨rfl, rfl⟩ := q
  refine px_PW.steps (frL L xs) 6 rfl ?_
  refine px_PW.siald (frL L xs) rfl (n := i + 1) (nI_addB (a := i) (b := 1) (by omega)) (by omega) (by omega) ?_
  refine px_PW.callV (frL L xs) rfl rfl rfl rfl p2 (by decide) (fun v h1 q => ?_)
  obtain ⟨rfl, rfl⟩ := q
  refine px_PW.steps (frL L xs) 2 rfl ?_
  exact k _ _ _ _ _ hR
theorem lw_10 {L : Nat} {xs : Nat → Int32} {i : Nat} (hi : i + 6 ≤ L) (hL : L ≤ 3072) {Z N Zm : Nat → Int32} {F G : Nat → Nat → Int32} (h : RR Z N F Zm G) {Q : Option Value → px_H → Prop} (k : ∀ (Z' N' : Nat → Int32) (F' : Nat → Nat → Int32) (Zm' : Nat → Int32) (G' : Nat → Nat → Int32), RR Z' N' F' Zm' G' → px_PW 60 (pc_L L xs) Q 1317 [some (.ref 3004), some (.ref 0), some (.ref 1000), some (.int (nI i))] [] (px_CH Z' N' F', px_MH Zm' G')) : px_PW 60 (pc_L L xs) Q 536 [some (.ref 3004), some (.ref 0), some (.ref 1000), some (.int (nI i))] [] (px_CH Z N F, px_MH Zm G) := by
  obtain ⟨a, b, Z', N', F', Zm', G', p1, p2, hR, he⟩ := px_pair (st_untellT (xs (i + 1))) h
  refine px_PW.steps (frL L xs) 5 rfl ?_
  refine px_PW.siald (frL L xs) rfl (n := i + 1) (nI_addB (a := i) (b := 1) (by omega)) (by omega) (by omega) ?_
  refine px_PW.callV (frL L xs) rfl rfl rfl rfl p1 (by decide) (fun v h1 q => ?_)
  obtain ⟨rfl, rfl⟩ := q
  refine px_PW.steps (frL L xs) 6 rfl ?_
  refine px_PW.siald (frL L xs) rfl (n := i + 1) (nI_addB (a := i) (b := 1) (by omega)) (by omega) (by omega) ?_
  refine px_PW.callV (frL L xs) rfl rfl rfl rfl p2 (by decide) (fun v h1 q => ?_)
  obtain ⟨rfl, rfl⟩ := q
  refine px_PW.steps (frL L xs) 2 rfl ?_
  exact k _ _ _ _ _ hR
theorem lw_11 {L : Nat} {xs : Nat → Int32} {i : Nat} (hi : i + 6 ≤ L) (hL : L ≤ 3072) {Z N Zm : Nat → Int32} {F G : Nat → Nat → Int32} (h : RR Z N F Zm G) {Q : Option Value → px_H → Prop} (k : ∀ (Z' N' : Nat → Int32) (F' : Nat → Nat → Int32) (Zm' : Nat → Int32) (G' : Nat → Nat → Int32), RR Z' N' F' Zm' G' → px_PW 60 (pc_L L xs) Q 1317 [some (.ref 3004), some (.ref 0), some (.ref 1000), some (.int (nI i))] [] (px_CH Z' N' F', px_MH Zm' G')) : px_PW 60 (pc_L L xs) Q 559 [some (.ref 3004), some (.ref 0), some (.ref 1000), some (.int (nI i))] [] (px_CH Z N F, px_MH Zm G) := by
  obtain ⟨a, b, Z', N', F', Zm', G', p1, p2, hR, he⟩ := px_pair (st_lawT (xs (i + 1)) (xs (i + 2)) (xs (i + 3)) (xs (i + 4))) h
  refine px_PW.steps (frL L xs) 5 rfl ?_
  refine px_PW.siald (frL L xs) rfl (n := i + 1) (nI_addB (a := i) (b := 1) (by omega)) (by omega) (by omega) ?_
  refine px_PW.steps (frL L xs) 4 rfl ?_
  refine px_PW.siald (frL L xs) rfl (n := i + 2) (nI_addB (a := i) (b := 2) (by omega)) (by omega) (by omega) ?_
  refine px_PW.steps (frL L xs) 4 rfl ?_
  refine px_PW.siald (frL L xs) rfl (n := i + 3) (nI_addB (a := i) (b := 3) (by omega)) (by omega) (by omega) ?_
  refine px_PW.steps (frL L xs) 4 rfl ?_
  refine px_PW.siald (frL L xs) rfl (n := i + 4) (nI_addB (a := i) (b := 4) (by omega)) (by omega) (by omega) ?_
  refine px_PW.callV (frL L xs) rfl rfl rfl rfl p1 (by decide) (fun v h1 q => ?_)
  obtain ⟨rfl, rfl⟩ := q
  refine px_PW.steps (frL L xs) 6 rfl ?_
  refine px_PW.siald (frL L xs) rfl (n := i + 1) (nI_addB (a := i) (b := 1) (by omega)) (by omega) (by omega) ?_
  refine px_PW.steps (frL L xs) 4 rfl ?_
  refine px_PW.siald (frL L xs) rfl (n := i + 2) (nI_addB (a := i) (b := 2) (by omega)) (by omega) (by omega) ?_
  refine px_PW.steps (frL L xs) 4 rfl ?_
  refine px_PW.siald (frL L xs) rfl (n := i + 3) (nI_addB (a := i) (b := 3) (by omega)) (by omega) (by omega) ?_
  refine px_PW.steps (frL L xs) 4 rfl ?_
  refine px_PW.siald (frL L xs) rfl (n := i + 4) (nI_addB (a := i) (b := 4) (by omega)) (by omega) (by omega) ?_
  refine px_PW.callV (frL L xs) rfl rfl rfl rfl p2 (by decide) (fun v h1 q => ?_)
  obtain ⟨rfl, rfl⟩ := q
  refine px_PW.steps (frL L xs) 2 rfl ?_
  exact k _ _ _ _ _ hR
theorem lw_12 {L : Nat} {xs : Nat → Int32} {i : Nat} (hi : i + 6 ≤ L) (hL : L ≤ 3072) {Z N Zm : Nat → Int32} {F G : Nat → Nat → Int32} (h : RR Z N F Zm G) {Q : Option Value → px_H → Prop} (k : ∀ (Z' N' : Nat → Int32) (F' : Nat → Nat → Int32) (Zm' : Nat → Int32) (G' : Nat → Nat → Int32), RR Z' N' F' Zm' G' → px_PW 60 (pc_L L xs) Q 1317 [some (.ref 3004), some (.ref 0), some (.ref 1000), some (.int (nI i))] [] (px_CH Z' N' F', px_MH Zm' G')) : px_PW 60 (pc_L L xs) Q 612 [some (.ref 3004), some (.ref 0), some (.ref 1000), some (.int (nI i))] [] (px_CH Z N F, px_MH Zm G) := by
  obtain ⟨a, b, Z', N', F', Zm', G', p1, p2, hR, he⟩ := px_pair (st_piece (xs (i + 1)) (xs (i + 2))) h
  refine px_PW.steps (frL L xs) 5 rfl ?_
  refine px_PW.siald (frL L xs) rfl (n := i + 1) (nI_addB (a := i) (b := 1) (by omega)) (by omega) (by omega) ?_
  refine px_PW.steps (frL L xs) 4 rfl ?_
  refine px_PW.siald (frL L xs) rfl (n := i + 2) (nI_addB (a := i) (b := 2) (by omega)) (by omega) (by omega) ?_
  refine px_PW.callV (frL L xs) rfl rfl rfl rfl p1 (by decide) (fun v h1 q => ?_)
  obtain ⟨rfl, rfl⟩ := q
  refine px_PW.steps (frL L xs) 6 rfl ?_
  refine px_PW.siald (frL L xs) rfl (n := i + 1) (nI_addB (a := i) (b := 1) (by omega)) (by omega) (by omega) ?_
  refine px_PW.steps (frL L xs) 4 rfl ?_
  refine px_PW.siald (frL L xs) rfl (n := i + 2) (nI_addB (a := i) (b := 2) (by omega)) (by omega) (by omega) ?_
  refine px_PW.callV (frL L xs) rfl rfl rfl rfl p2 (by decide) (fun v h1 q => ?_)
  obtain ⟨rfl, rfl⟩ := q
  refine px_PW.steps (frL L xs) 2 rfl ?_
  exact k _ _ _ _ _ hR
theorem lw_13 {L : Nat} {xs : Nat → Int32} {i : Nat} (hi : i + 6 ≤ L) (hL : L ≤ 3072) {Z N Zm : Nat → Int32} {F G : Nat → Nat → Int32} (h : RR Z N F Zm G) {Q : Option Value → px_H → Prop} (k : ∀ (Z' N' : Nat → Int32) (F' : Nat → Nat → Int32) (Zm' : Nat → Int32) (G' : Nat → Nat → Int32), RR Z' N' F' Zm' G' → px_PW 60 (pc_L L xs) Q 1317 [some (.ref 3004), some (.ref 0), some (.ref 1000), some (.int (nI i))] [] (px_CH Z' N' F', px_MH Zm' G')) : px_PW 60 (pc_L L xs) Q 645 [some (.ref 3004), some (.ref 0), some (.ref 1000), some (.int (nI i))] [] (px_CH Z N F, px_MH Zm G) := by
  obtain ⟨a, b, Z', N', F', Zm', G', p1, p2, hR, he⟩ := px_pair (st_rowIs (xs (i + 1)) (xs (i + 2))) h
  refine px_PW.steps (frL L xs) 5 rfl ?_
  refine px_PW.siald (frL L xs) rfl (n := i + 1) (nI_addB (a := i) (b := 1) (by omega)) (by omega) (by omega) ?_
  refine px_PW.steps (frL L xs) 4 rfl ?_
  refine px_PW.siald (frL L xs) rfl (n := i + 2) (nI_addB (a := i) (b := 2) (by omega)) (by omega) (by omega) ?_
  refine px_PW.callV (frL L xs) rfl rfl rfl rfl p1 (by decide) (fun v h1 q => ?_)
  obtain ⟨rfl, rfl⟩ := q
  refine px_PW.steps (frL L xs) 6 rfl ?_
  refine px_PW.siald (frL L xs) rfl (n := i + 1) (nI_addB (a := i) (b := 1) (by omega)) (by omega) (by omega) ?_
  refine px_PW.steps (frL L xs) 4 rfl ?_
  refine px_PW.siald (frL L xs) rfl (n := i + 2) (nI_addB (a := i) (b := 2) (by omega)) (by omega) (by omega) ?_
  refine px_PW.callV (frL L xs) rfl rfl rfl rfl p2 (by decide) (fun v h1 q => ?_)
  obtain ⟨rfl, rfl⟩ := q
  refine px_PW.steps (frL L xs) 2 rfl ?_
  exact k _ _ _ _ _ hR
theorem lw_14 {L : Nat} {xs : Nat → Int32} {i : Nat} (hi : i + 6 ≤ L) (hL : L ≤ 3072) {Z N Zm : Nat → Int32} {F G : Nat → Nat → Int32} (h : RR Z N F Zm G) {Q : Option Value → px_H → Prop} (k : ∀ (Z' N' : Nat → Int32) (F' : Nat → Nat → Int32) (Zm' : Nat → Int32) (G' : Nat → Nat → Int32), RR Z' N' F' Zm' G' → px_PW 60 (pc_L L xs) Q 1317 [some (.ref 3004), some (.ref 0), some (.ref 1000), some (.int (nI i))] [] (px_CH Z' N' F', px_MH Zm' G')) : px_PW 60 (pc_L L xs) Q 678 [some (.ref 3004), some (.ref 0), some (.ref 1000), some (.int (nI i))] [] (px_CH Z N F, px_MH Zm G) := by
  obtain ⟨a, b, Z', N', F', Zm', G', p1, p2, hR, he⟩ := px_pair (st_seenT (xs (i + 1)) (xs (i + 2)) (xs (i + 3))) h
  refine px_PW.steps (frL L xs) 5 rfl ?_
  refine px_PW.siald (frL L xs) rfl (n := i + 1) (nI_addB (a := i) (b := 1) (by omega)) (by omega) (by omega) ?_
  refine px_PW.steps (frL L xs) 4 rfl ?_
  refine px_PW.siald (frL L xs) rfl (n := i + 2) (nI_addB (a := i) (b := 2) (by omega)) (by omega) (by omega) ?_
  refine px_PW.steps (frL L xs) 4 rfl ?_
  refine px_PW.siald (frL L xs) rfl (n := i + 3) (nI_addB (a := i) (b := 3) (by omega)) (by omega) (by omega) ?_
  refine px_PW.callV (frL L xs) rfl rfl rfl rfl p1 (by decide) (fun v h1 q => ?_)
  obtain ⟨rfl, rfl⟩ := q
  refine px_PW.steps (frL L xs) 6 rfl ?_
  refine px_PW.siald (frL L xs) rfl (n := i + 1) (nI_addB (a := i) (b := 1) (by omega)) (by omega) (by omega) ?_
  refine px_PW.steps (frL L xs) 4 rfl ?_
  refine px_PW.siald (frL L xs) rfl (n := i + 2) (nI_addB (a := i) (b := 2) (by omega)) (by omega) (by omega) ?_
  refine px_PW.steps (frL L xs) 4 rfl ?_
  refine px_PW.siald (frL L xs) rfl (n := i + 3) (nI_addB (a := i) (b := 3) (by omega)) (by omega) (by omega) ?_
  refine px_PW.callV (frL L xs) rfl rfl rfl rfl p2 (by decide) (fun v h1 q => ?_)
  obtain ⟨rfl, rfl⟩ := q
  refine px_PW.steps (frL L xs) 2 rfl ?_
  exact k _ _ _ _ _ hR
theorem lw_15 {L : Nat} {xs : Nat → Int32} {i : Nat} (hi : i + 6 ≤ L) (hL : L ≤ 3072) {Z N Zm : Nat → Int32} {F G : Nat → Nat → Int32} (h : RR Z N F Zm G) {Q : Option Value → px_H → Prop} (k : ∀ (Z' N' : Nat → Int32) (F' : Nat → Nat → Int32) (Zm' : Nat → Int32) (G' : Nat → Nat → Int32), RR Z' N' F' Zm' G' → px_PW 60 (pc_L L xs) Q 1317 [some (.ref 3004), some (.ref 0), some (.ref 1000), some (.int (nI i))] [] (px_CH Z' N' F', px_MH Zm' G')) : px_PW 60 (pc_L L xs) Q 721 [some (.ref 3004), some (.ref 0), some (.ref 1000), some (.int (nI i))] [] (px_CH Z N F, px_MH Zm G) := by
  obtain ⟨a, b, Z', N', F', Zm', G', p1, p2, hR, he⟩ := px_pair (st_buyT (xs (i + 1))) h
  refine px_PW.steps (frL L xs) 5 rfl ?_
  refine px_PW.siald (frL L xs) rfl (n := i + 1) (nI_addB (a := i) (b := 1) (by omega)) (by omega) (by omega) ?_
  refine px_PW.callV (frL L xs) rfl rfl rfl rfl p1 (by decide) (fun v h1 q => ?_)
  obtain ⟨rfl, rfl⟩ := q
  refine px_PW.steps (frL L xs) 6 rfl ?_
  refine px_PW.siald (frL L xs) rfl (n := i + 1) (nI_addB (a := i) (b := 1) (by omega)) (by omega) (by omega) ?_
  refine px_PW.callV (frL L xs) rfl rfl rfl rfl p2 (by decide) (fun v h1 q => ?_)
  obtain ⟨rfl, rfl⟩ := q
  refine px_PW.steps (frL L xs) 2 rfl ?_
  exact k _ _ _ _ _ hR
theorem lw_16 {L : Nat} {xs : Nat → Int32} {i : Nat} (hi : i + 6 ≤ L) (hL : L ≤ 3072) {Z N Zm : Nat → Int32} {F G : Nat → Nat → Int32} (h : RR Z N F Zm G) {Q : Option Value → px_H → Prop} (k : ∀ (Z' N' : Nat → Int32) (F' : Nat → Nat → Int32) (Zm' : Nat → Int32) (G' : Nat → Nat → Int32), RR Z' N' F' Zm' G' → px_PW 60 (pc_L L xs) Q 1317 [some (.ref 3004), some (.ref 0), some (.ref 1000), some (.int (nI i))] [] (px_CH Z' N' F', px_MH Zm' G')) : px_PW 60 (pc_L L xs) Q 744 [some (.ref 3004), some (.ref 0), some (.ref 1000), some (.int (nI i))] [] (px_CH Z N F, px_MH Zm G) := by
  obtain ⟨a, b, Z', N', F', Zm', G', p1, p2, hR, he⟩ := px_pair (st_loose (xs (i + 1))) h
  refine px_PW.steps (frL L xs) 5 rfl ?_
  refine px_PW.siald (frL L xs) rfl (n := i + 1) (nI_addB (a := i) (b := 1) (by omega)) (by omega) (by omega) ?_
  refine px_PW.callV (frL L xs) rfl rfl rfl rfl p1 (by decide) (fun v h1 q => ?_)
  obtain ⟨rfl, rfl⟩ := q
  refine px_PW.steps (frL L xs) 6 rfl ?_
  refine px_PW.siald (frL L xs) rfl (n := i + 1) (nI_addB (a := i) (b := 1) (by omega)) (by omega) (by omega) ?_
  refine px_PW.callV (frL L xs) rfl rfl rfl rfl p2 (by decide) (fun v h1 q => ?_)
  obtain ⟨rfl, rfl⟩ := q
  refine px_PW.steps (frL L xs) 2 rfl ?_
  exact k _ _ _ _ _ hR
theorem lw_17 {L : Nat} {xs : Nat → Int32} {i : Nat} (hi : i + 6 ≤ L) (hL : L ≤ 3072) {Z N Zm : Nat → Int32} {F G : Nat → Nat → Int32} (h : RR Z N F Zm G) {Q : Option Value → px_H → Prop} (k : ∀ (Z' N' : Nat → Int32) (F' : Nat → Nat → Int32) (Zm' : Nat → Int32) (G' : Nat → Nat → Int32), RR Z' N' F' Zm' G' → px_PW 60 (pc_L L xs) Q 1317 [some (.ref 3004), some (.ref 0), some (.ref 1000), some (.int (nI i))] [] (px_CH Z' N' F', px_MH Zm' G')) : px_PW 60 (pc_L L xs) Q 767 [some (.ref 3004), some (.ref 0), some (.ref 1000), some (.int (nI i))] [] (px_CH Z N F, px_MH Zm G) := by
  obtain ⟨a, b, Z', N', F', Zm', G', p1, p2, hR, he⟩ := px_pair (st_seed (xs (i + 1))) h
  refine px_PW.steps (frL L xs) 5 rfl ?_
  refine px_PW.siald (frL L xs) rfl (n := i + 1) (nI_addB (a := i) (b := 1) (by omega)) (by omega) (by omega) ?_
  refine px_PW.callV (frL L xs) rfl rfl rfl rfl p1 (by decide) (fun v h1 q => ?_)
  obtain ⟨rfl, rfl⟩ := q
  refine px_PW.steps (frL L xs) 6 rfl ?_
  refine px_PW.siald (frL L xs) rfl (n := i + 1) (nI_addB (a := i) (b := 1) (by omega)) (by omega) (by omega) ?_
  refine px_PW.callV (frL L xs) rfl rfl rfl rfl p2 (by decide) (fun v h1 q => ?_)
  obtain ⟨rfl, rfl⟩ := q
  refine px_PW.steps (frL L xs) 2 rfl ?_
  exact k _ _ _ _ _ hR
theorem lw_18 {L : Nat} {xs : Nat → Int32} {i : Nat} (hi : i + 6 ≤ L) (hL : L ≤ 3072) {Z N Zm : Nat → Int32} {F G : Nat → Nat → Int32} (h : RR Z N F Zm G) {Q : Option Value → px_H → Prop} (k : ∀ (Z' N' : Nat → Int32) (F' : Nat → Nat → Int32) (Zm' : Nat → Int32) (G' : Nat → Nat → Int32), RR Z' N' F' Zm' G' → px_PW 60 (pc_L L xs) Q 1317 [some (.ref 3004), some (.ref 0), some (.ref 1000), some (.int (nI i))] [] (px_CH Z' N' F', px_MH Zm' G')) : px_PW 60 (pc_L L xs) Q 790 [some (.ref 3004), some (.ref 0), some (.ref 1000), some (.int (nI i))] [] (px_CH Z N F, px_MH Zm G) := by
  obtain ⟨a, b, Z', N', F', Zm', G', p1, p2, hR, he⟩ := px_pair (st_bestT (xs (i + 1))) h
  refine px_PW.steps (frL L xs) 5 rfl ?_
  refine px_PW.siald (frL L xs) rfl (n := i + 1) (nI_addB (a := i) (b := 1) (by omega)) (by omega) (by omega) ?_
  refine px_PW.callV (frL L xs) rfl rfl rfl rfl p1 (by decide) (fun v h1 q => ?_)
  obtain ⟨rfl, rfl⟩ := q
  refine px_PW.steps (frL L xs) 6 rfl ?_
  refine px_PW.siald (frL L xs) rfl (n := i + 1) (nI_addB (a := i) (b := 1) (by omega)) (by omega) (by omega) ?_
  refine px_PW.callV (frL L xs) rfl rfl rfl rfl p2 (by decide) (fun v h1 q => ?_)
  obtain ⟨rfl, rfl⟩ := q
  refine px_PW.steps (frL L xs) 2 rfl ?_
  exact k _ _ _ _ _ hR
theorem lw_19 {L : Nat} {xs : Nat → Int32} {i : Nat} (hi : i + 6 ≤ L) (hL : L ≤ 3072) {Z N Zm : Nat → Int32} {F G : Nat → Nat → Int32} (h : RR Z N F Zm G) {Q : Option Value → px_H → Prop} (k : ∀ (Z' N' : Nat → Int32) (F' : Nat → Nat → Int32) (Zm' : Nat → Int32) (G' : Nat → Nat → Int32), RR Z' N' F' Zm' G' → px_PW 60 (pc_L L xs) Q 1317 [some (.ref 3004), some (.ref 0), some (.ref 1000), some (.int (nI i))] [] (px_CH Z' N' F', px_MH Zm' G')) : px_PW 60 (pc_L L xs) Q 813 [some (.ref 3004), some (.ref 0), some (.ref 1000), some (.int (nI i))] [] (px_CH Z N F, px_MH Zm G) := by
  obtain ⟨a, b, Z', N', F', Zm', G', p1, p2, hR, he⟩ := px_pair (st_calmT (xs (i + 1))) h
  refine px_PW.steps (frL L xs) 5 rfl ?_
  refine px_PW.siald (frL L xs) rfl (n := i + 1) (nI_addB (a := i) (b := 1) (by omega)) (by omega) (by omega) ?_
  refine px_PW.callV (frL L xs) rfl rfl rfl rfl p1 (by decide) (fun v h1 q => ?_)
  obtain ⟨rfl, rfl⟩ := q
  refine px_PW.steps (frL L xs) 6 rfl ?_
  refine px_PW.siald (frL L xs) rfl (n := i + 1) (nI_addB (a := i) (b := 1) (by omega)) (by omega) (by omega) ?_
  refine px_PW.callV (frL L xs) rfl rfl rfl rfl p2 (by decide) (fun v h1 q => ?_)
  obtain ⟨rfl, rfl⟩ := q
  refine px_PW.steps (frL L xs) 2 rfl ?_
  exact k _ _ _ _ _ hR
theorem lw_20 {L : Nat} {xs : Nat → Int32} {i : Nat} (hi : i + 6 ≤ L) (hL : L ≤ 3072) {Z N Zm : Nat → Int32} {F G : Nat → Nat → Int32} (h : RR Z N F Zm G) {Q : Option Value → px_H → Prop} (k : ∀ (Z' N' : Nat → Int32) (F' : Nat → Nat → Int32) (Zm' : Nat → Int32) (G' : Nat → Nat → Int32), RR Z' N' F' Zm' G' → px_PW 60 (pc_L L xs) Q 1317 [some (.ref 3004), some (.ref 0), some (.ref 1000), some (.int (nI i))] [] (px_CH Z' N' F', px_MH Zm' G')) : px_PW 60 (pc_L L xs) Q 836 [some (.ref 3004), some (.ref 0), some (.ref 1000), some (.int (nI i))] [] (px_CH Z N F, px_MH Zm G) := by
  obtain ⟨a, b, Z', N', F', Zm', G', p1, p2, hR, he⟩ := px_pair (st_cheatT (xs (i + 1))) h
  refine px_PW.steps (frL L xs) 5 rfl ?_
  refine px_PW.siald (frL L xs) rfl (n := i + 1) (nI_addB (a := i) (b := 1) (by omega)) (by omega) (by omega) ?_
  refine px_PW.callV (frL L xs) rfl rfl rfl rfl p1 (by decide) (fun v h1 q => ?_)
  obtain ⟨rfl, rfl⟩ := q
  refine px_PW.steps (frL L xs) 6 rfl ?_
  refine px_PW.siald (frL L xs) rfl (n := i + 1) (nI_addB (a := i) (b := 1) (by omega)) (by omega) (by omega) ?_
  refine px_PW.callV (frL L xs) rfl rfl rfl rfl p2 (by decide) (fun v h1 q => ?_)
  obtain ⟨rfl, rfl⟩ := q
  refine px_PW.steps (frL L xs) 2 rfl ?_
  exact k _ _ _ _ _ hR
theorem lw_21 {L : Nat} {xs : Nat → Int32} {i : Nat} (hi : i + 6 ≤ L) (hL : L ≤ 3072) {Z N Zm : Nat → Int32} {F G : Nat → Nat → Int32} (h : RR Z N F Zm G) {Q : Option Value → px_H → Prop} (k : ∀ (Z' N' : Nat → Int32) (F' : Nat → Nat → Int32) (Zm' : Nat → Int32) (G' : Nat → Nat → Int32), RR Z' N' F' Zm' G' → px_PW 60 (pc_L L xs) Q 1317 [some (.ref 3004), some (.ref 0), some (.ref 1000), some (.int (nI i))] [] (px_CH Z' N' F', px_MH Zm' G')) : px_PW 60 (pc_L L xs) Q 859 [some (.ref 3004), some (.ref 0), some (.ref 1000), some (.int (nI i))] [] (px_CH Z N F, px_MH Zm G) := by
  obtain ⟨a, b, Z', N', F', Zm', G', p1, p2, hR, he⟩ := px_pair (st_middleT (xs (i + 1))) h
  refine px_PW.steps (frL L xs) 5 rfl ?_
  refine px_PW.siald (frL L xs) rfl (n := i + 1) (nI_addB (a := i) (b := 1) (by omega)) (by omega) (by omega) ?_
  refine px_PW.callV (frL L xs) rfl rfl rfl rfl p1 (by decide) (fun v h1 q => ?_)
  obtain ⟨rfl, rfl⟩ := q
  refine px_PW.steps (frL L xs) 6 rfl ?_
  refine px_PW.siald (frL L xs) rfl (n := i + 1) (nI_addB (a := i) (b := 1) (by omega)) (by omega) (by omega) ?_
  refine px_PW.callV (frL L xs) rfl rfl rfl rfl p2 (by decide) (fun v h1 q => ?_)
  obtain ⟨rfl, rfl⟩ := q
  refine px_PW.steps (frL L xs) 2 rfl ?_
  exact k _ _ _ _ _ hR
theorem lw_22 {L : Nat} {xs : Nat → Int32} {i : Nat} (hi : i + 6 ≤ L) (hL : L ≤ 3072) {Z N Zm : Nat → Int32} {F G : Nat → Nat → Int32} (h : RR Z N F Zm G) {Q : Option Value → px_H → Prop} (k : ∀ (Z' N' : Nat → Int32) (F' : Nat → Nat → Int32) (Zm' : Nat → Int32) (G' : Nat → Nat → Int32), RR Z' N' F' Zm' G' → px_PW 60 (pc_L L xs) Q 1317 [some (.ref 3004), some (.ref 0), some (.ref 1000), some (.int (nI i))] [] (px_CH Z' N' F', px_MH Zm' G')) : px_PW 60 (pc_L L xs) Q 882 [some (.ref 3004), some (.ref 0), some (.ref 1000), some (.int (nI i))] [] (px_CH Z N F, px_MH Zm G) := by
  obtain ⟨a, b, Z', N', F', Zm', G', p1, p2, hR, he⟩ := px_pair (st_oddsT (xs (i + 1)) (xs (i + 2))) h
  refine px_PW.steps (frL L xs) 5 rfl ?_
  refine px_PW.siald (frL L xs) rfl (n := i + 1) (nI_addB (a := i) (b := 1) (by omega)) (by omega) (by omega) ?_
  refine px_PW.steps (frL L xs) 4 rfl ?_
  refine px_PW.siald (frL L xs) rfl (n := i + 2) (nI_addB (a := i) (b := 2) (by omega)) (by omega) (by omega) ?_
  refine px_PW.callV (frL L xs) rfl rfl rfl rfl p1 (by decide) (fun v h1 q => ?_)
  obtain ⟨rfl, rfl⟩ := q
  refine px_PW.steps (frL L xs) 6 rfl ?_
  refine px_PW.siald (frL L xs) rfl (n := i + 1) (nI_addB (a := i) (b := 1) (by omega)) (by omega) (by omega) ?_
  refine px_PW.steps (frL L xs) 4 rfl ?_
  refine px_PW.siald (frL L xs) rfl (n := i + 2) (nI_addB (a := i) (b := 2) (by omega)) (by omega) (by omega) ?_
  refine px_PW.callV (frL L xs) rfl rfl rfl rfl p2 (by decide) (fun v h1 q => ?_)
  obtain ⟨rfl, rfl⟩ := q
  refine px_PW.steps (frL L xs) 2 rfl ?_
  exact k _ _ _ _ _ hR
theorem lw_23 {L : Nat} {xs : Nat → Int32} {i : Nat} (hi : i + 6 ≤ L) (hL : L ≤ 3072) {Z N Zm : Nat → Int32} {F G : Nat → Nat → Int32} (h : RR Z N F Zm G) {Q : Option Value → px_H → Prop} (k : ∀ (Z' N' : Nat → Int32) (F' : Nat → Nat → Int32) (Zm' : Nat → Int32) (G' : Nat → Nat → Int32), RR Z' N' F' Zm' G' → px_PW 60 (pc_L L xs) Q 1317 [some (.ref 3004), some (.ref 0), some (.ref 1000), some (.int (nI i))] [] (px_CH Z' N' F', px_MH Zm' G')) : px_PW 60 (pc_L L xs) Q 915 [some (.ref 3004), some (.ref 0), some (.ref 1000), some (.int (nI i))] [] (px_CH Z N F, px_MH Zm G) := by
  obtain ⟨a, b, Z', N', F', Zm', G', p1, p2, hR, he⟩ := px_pair (st_fitsT (xs (i + 1)) (xs (i + 2))) h
  refine px_PW.steps (frL L xs) 5 rfl ?_
  refine px_PW.siald (frL L xs) rfl (n := i + 1) (nI_addB (a := i) (b := 1) (by omega)) (by omega) (by omega) ?_
  refine px_PW.steps (frL L xs) 4 rfl ?_
  refine px_PW.siald (frL L xs) rfl (n := i + 2) (nI_addB (a := i) (b := 2) (by omega)) (by omega) (by omega) ?_
  refine px_PW.callV (frL L xs) rfl rfl rfl rfl p1 (by decide) (fun v h1 q => ?_)
  obtain ⟨rfl, rfl⟩ := q
  refine px_PW.steps (frL L xs) 6 rfl ?_
  refine px_PW.siald (frL L xs) rfl (n := i + 1) (nI_addB (a := i) (b := 1) (by omega)) (by omega) (by omega) ?_
  refine px_PW.steps (frL L xs) 4 rfl ?_
  refine px_PW.siald (frL L xs) rfl (n := i + 2) (nI_addB (a := i) (b := 2) (by omega)) (by omega) (by omega) ?_
  refine px_PW.callV (frL L xs) rfl rfl rfl rfl p2 (by decide) (fun v h1 q => ?_)
  obtain ⟨rfl, rfl⟩ := q
  refine px_PW.steps (frL L xs) 2 rfl ?_
  exact k _ _ _ _ _ hR
theorem lw_24 {L : Nat} {xs : Nat → Int32} {i : Nat} (hi : i + 6 ≤ L) (hL : L ≤ 3072) {Z N Zm : Nat → Int32} {F G : Nat → Nat → Int32} (h : RR Z N F Zm G) {Q : Option Value → px_H → Prop} (k : ∀ (Z' N' : Nat → Int32) (F' : Nat → Nat → Int32) (Zm' : Nat → Int32) (G' : Nat → Nat → Int32), RR Z' N' F' Zm' G' → px_PW 60 (pc_L L xs) Q 1317 [some (.ref 3004), some (.ref 0), some (.ref 1000), some (.int (nI i))] [] (px_CH Z' N' F', px_MH Zm' G')) : px_PW 60 (pc_L L xs) Q 948 [some (.ref 3004), some (.ref 0), some (.ref 1000), some (.int (nI i))] [] (px_CH Z N F, px_MH Zm G) := by
  obtain ⟨a, b, Z', N', F', Zm', G', p1, p2, hR, he⟩ := px_pair (st_voiceT (xs (i + 1)) (xs (i + 2)) (xs (i + 3))) h
  refine px_PW.steps (frL L xs) 5 rfl ?_
  refine px_PW.siald (frL L xs) rfl (n := i + 1) (nI_addB (a := i) (b := 1) (by omega)) (by omega) (by omega) ?_
  refine px_PW.steps (frL L xs) 4 rfl ?_
  refine px_PW.siald (frL L xs) rfl (n := i + 2) (nI_addB (a := i) (b := 2) (by omega)) (by omega) (by omega) ?_
  refine px_PW.steps (frL L xs) 4 rfl ?_
  refine px_PW.siald (frL L xs) rfl (n := i + 3) (nI_addB (a := i) (b := 3) (by omega)) (by omega) (by omega) ?_
  refine px_PW.callV (frL L xs) rfl rfl rfl rfl p1 (by decide) (fun v h1 q => ?_)
  obtain ⟨rfl, rfl⟩ := q
  refine px_PW.steps (frL L xs) 6 rfl ?_
  refine px_PW.siald (frL L xs) rfl (n := i + 1) (nI_addB (a := i) (b := 1) (by omega)) (by omega) (by omega) ?_
  refine px_PW.steps (frL L xs) 4 rfl ?_
  refine px_PW.siald (frL L xs) rfl (n := i + 2) (nI_addB (a := i) (b := 2) (by omega)) (by omega) (by omega) ?_
  refine px_PW.steps (frL L xs) 4 rfl ?_
  refine px_PW.siald (frL L xs) rfl (n := i + 3) (nI_addB (a := i) (b := 3) (by omega)) (by omega) (by omega) ?_
  refine px_PW.callV (frL L xs) rfl rfl rfl rfl p2 (by decide) (fun v h1 q => ?_)
  obtain ⟨rfl, rfl⟩ := q
  refine px_PW.steps (frL L xs) 2 rfl ?_
  exact k _ _ _ _ _ hR
theorem lw_25 {L : Nat} {xs : Nat → Int32} {i : Nat} (hi : i + 6 ≤ L) (hL : L ≤ 3072) {Z N Zm : Nat → Int32} {F G : Nat → Nat → Int32} (h : RR Z N F Zm G) {Q : Option Value → px_H → Prop} (k : ∀ (Z' N' : Nat → Int32) (F' : Nat → Nat → Int32) (Zm' : Nat → Int32) (G' : Nat → Nat → Int32), RR Z' N' F' Zm' G' → px_PW 60 (pc_L L xs) Q 1317 [some (.ref 3004), some (.ref 0), some (.ref 1000), some (.int (nI i))] [] (px_CH Z' N' F', px_MH Zm' G')) : px_PW 60 (pc_L L xs) Q 991 [some (.ref 3004), some (.ref 0), some (.ref 1000), some (.int (nI i))] [] (px_CH Z N F, px_MH Zm G) := by
  obtain ⟨a, b, Z', N', F', Zm', G', p1, p2, hR, he⟩ := px_pair (st_body (xs (i + 1))) h
  refine px_PW.steps (frL L xs) 5 rfl ?_
  refine px_PW.siald (frL L xs) rfl (n := i + 1) (nI_addB (a := i) (b := 1) (by omega)) (by omega) (by omega) ?_
  refine px_PW.callV (frL L xs) rfl rfl rfl rfl p1 (by decide) (fun v h1 q => ?_)
  obtain ⟨rfl, rfl⟩ := q
  refine px_PW.steps (frL L xs) 6 rfl ?_
  refine px_PW.siald (frL L xs) rfl (n := i + 1) (nI_addB (a := i) (b := 1) (by omega)) (by omega) (by omega) ?_
  refine px_PW.callV (frL L xs) rfl rfl rfl rfl p2 (by decide) (fun v h1 q => ?_)
  obtain ⟨rfl, rfl⟩ := q
  refine px_PW.steps (frL L xs) 2 rfl ?_
  exact k _ _ _ _ _ hR
theorem lw_26 {L : Nat} {xs : Nat → Int32} {i : Nat} (hi : i + 6 ≤ L) (hL : L ≤ 3072) {Z N Zm : Nat → Int32} {F G : Nat → Nat → Int32} (h : RR Z N F Zm G) {Q : Option Value → px_H → Prop} (k : ∀ (Z' N' : Nat → Int32) (F' : Nat → Nat → Int32) (Zm' : Nat → Int32) (G' : Nat → Nat → Int32), RR Z' N' F' Zm' G' → px_PW 60 (pc_L L xs) Q 1317 [some (.ref 3004), some (.ref 0), some (.ref 1000), some (.int (nI i))] [] (px_CH Z' N' F', px_MH Zm' G')) : px_PW 60 (pc_L L xs) Q 1014 [some (.ref 3004), some (.ref 0), some (.ref 1000), some (.int (nI i))] [] (px_CH Z N F, px_MH Zm G) := by
  obtain ⟨a, b, Z', N', F', Zm', G', p1, p2, hR, he⟩ := px_pair (st_sheet (xs (i + 1)) (xs (i + 2)) (xs (i + 3))) h
  refine px_PW.steps (frL L xs) 5 rfl ?_
  refine px_PW.siald (frL L xs) rfl (n := i + 1) (nI_addB (a := i) (b := 1) (by omega)) (by omega) (by omega) ?_
  refine px_PW.steps (frL L xs) 4 rfl ?_
  refine px_PW.siald (frL L xs) rfl (n := i + 2) (nI_addB (a := i) (b := 2) (by omega)) (by omega) (by omega) ?_
  refine px_PW.steps (frL L xs) 4 rfl ?_
  refine px_PW.siald (frL L xs) rfl (n := i + 3) (nI_addB (a := i) (b := 3) (by omega)) (by omega) (by omega) ?_
  refine px_PW.callV (frL L xs) rfl rfl rfl rfl p1 (by decide) (fun v h1 q => ?_)
  obtain ⟨rfl, rfl⟩ := q
  refine px_PW.steps (frL L xs) 6 rfl ?_
  refine px_PW.siald (frL L xs) rfl (n := i + 1) (nI_addB (a := i) (b := 1) (by omega)) (by omega) (by omega) ?_
  refine px_PW.steps (frL L xs) 4 rfl ?_
  refine px_PW.siald (frL L xs) rfl (n := i + 2) (nI_addB (a := i) (b := 2) (by omega)) (by omega) (by omega) ?_
  refine px_PW.steps (frL L xs) 4 rfl ?_
  refine px_PW.siald (frL L xs) rfl (n := i + 3) (nI_addB (a := i) (b := 3) (by omega)) (by omega) (by omega) ?_
  refine px_PW.callV (frL L xs) rfl rfl rfl rfl p2 (by decide) (fun v h1 q => ?_)
  obtain ⟨rfl, rfl⟩ := q
  refine px_PW.steps (frL L xs) 2 rfl ?_
  exact k _ _ _ _ _ hR
theorem lw_27 {L : Nat} {xs : Nat → Int32} {i : Nat} (hi : i + 6 ≤ L) (hL : L ≤ 3072) {Z N Zm : Nat → Int32} {F G : Nat → Nat → Int32} (h : RR Z N F Zm G) {Q : Option Value → px_H → Prop} (k : ∀ (Z' N' : Nat → Int32) (F' : Nat → Nat → Int32) (Zm' : Nat → Int32) (G' : Nat → Nat → Int32), RR Z' N' F' Zm' G' → px_PW 60 (pc_L L xs) Q 1317 [some (.ref 3004), some (.ref 0), some (.ref 1000), some (.int (nI i))] [] (px_CH Z' N' F', px_MH Zm' G')) : px_PW 60 (pc_L L xs) Q 1057 [some (.ref 3004), some (.ref 0), some (.ref 1000), some (.int (nI i))] [] (px_CH Z N F, px_MH Zm G) := by
  obtain ⟨a, b, Z', N', F', Zm', G', p1, p2, hR, he⟩ := px_pair (st_put (xs (i + 1)) (xs (i + 2)) (xs (i + 3))) h
  refine px_PW.steps (frL L xs) 5 rfl ?_
  refine px_PW.siald (frL L xs) rfl (n := i + 1) (nI_addB (a := i) (b := 1) (by omega)) (by omega) (by omega) ?_
  refine px_PW.steps (frL L xs) 4 rfl ?_
  refine px_PW.siald (frL L xs) rfl (n := i + 2) (nI_addB (a := i) (b := 2) (by omega)) (by omega) (by omega) ?_
  refine px_PW.steps (frL L xs) 4 rfl ?_
  refine px_PW.siald (frL L xs) rfl (n := i + 3) (nI_addB (a := i) (b := 3) (by omega)) (by omega) (by omega) ?_
  refine px_PW.callV (frL L xs) rfl rfl rfl rfl p1 (by decide) (fun v h1 q => ?_)
  obtain ⟨rfl, rfl⟩ := q
  refine px_PW.steps (frL L xs) 6 rfl ?_
  refine px_PW.siald (frL L xs) rfl (n := i + 1) (nI_addB (a := i) (b := 1) (by omega)) (by omega) (by omega) ?_
  refine px_PW.steps (frL L xs) 4 rfl ?_
  refine px_PW.siald (frL L xs) rfl (n := i + 2) (nI_addB (a := i) (b := 2) (by omega)) (by omega) (by omega) ?_
  refine px_PW.steps (frL L xs) 4 rfl ?_
  refine px_PW.siald (frL L xs) rfl (n := i + 3) (nI_addB (a := i) (b := 3) (by omega)) (by omega) (by omega) ?_
  refine px_PW.callV (frL L xs) rfl rfl rfl rfl p2 (by decide) (fun v h1 q => ?_)
  obtain ⟨rfl, rfl⟩ := q
  refine px_PW.steps (frL L xs) 2 rfl ?_
  exact k _ _ _ _ _ hR
theorem lw_28 {L : Nat} {xs : Nat → Int32} {i : Nat} (hi : i + 6 ≤ L) (hL : L ≤ 3072) {Z N Zm : Nat → Int32} {F G : Nat → Nat → Int32} (h : RR Z N F Zm G) {Q : Option Value → px_H → Prop} (k : ∀ (Z' N' : Nat → Int32) (F' : Nat → Nat → Int32) (Zm' : Nat → Int32) (G' : Nat → Nat → Int32), RR Z' N' F' Zm' G' → px_PW 60 (pc_L L xs) Q 1317 [some (.ref 3004), some (.ref 0), some (.ref 1000), some (.int (nI i))] [] (px_CH Z' N' F', px_MH Zm' G')) : px_PW 60 (pc_L L xs) Q 1100 [some (.ref 3004), some (.ref 0), some (.ref 1000), some (.int (nI i))] [] (px_CH Z N F, px_MH Zm G) := by
  obtain ⟨a, b, Z', N', F', Zm', G', p1, p2, hR, he⟩ := px_pair (st_move (xs (i + 1)) (xs (i + 2)) (xs (i + 3)) (xs (i + 4)) (xs (i + 5))) h
  refine px_PW.steps (frL L xs) 5 rfl ?_
  refine px_PW.siald (frL L xs) rfl (n := i + 1) (nI_addB (a := i) (b := 1) (by omega)) (by omega) (by omega) ?_
  refine px_PW.steps (frL L xs) 4 rfl ?_
  refine px_PW.siald (frL L xs) rfl (n := i + 2) (nI_addB (a := i) (b := 2) (by omega)) (by omega) (by omega) ?_
  refine px_PW.steps (frL L xs) 4 rfl ?_
  refine px_PW.siald (frL L xs) rfl (n := i + 3) (nI_addB (a := i) (b := 3) (by omega)) (by omega) (by omega) ?_
  refine px_PW.steps (frL L xs) 4 rfl ?_
  refine px_PW.siald (frL L xs) rfl (n := i + 4) (nI_addB (a := i) (b := 4) (by omega)) (by omega) (by omega) ?_
  refine px_PW.steps (frL L xs) 4 rfl ?_
  refine px_PW.siald (frL L xs) rfl (n := i + 5) (nI_addB (a := i) (b := 5) (by omega)) (by omega) (by omega) ?_
  refine px_PW.callV (frL L xs) rfl rfl rfl rfl p1 (by decide) (fun v h1 q => ?_)
  obtain ⟨rfl, rfl⟩ := q
  refine px_PW.steps (frL L xs) 6 rfl ?_
  refine px_PW.siald (frL L xs) rfl (n := i + 1) (nI_addB (a := i) (b := 1) (by omega)) (by omega) (by omega) ?_
  refine px_PW.steps (frL L xs) 4 rfl ?_
  refine px_PW.siald (frL L xs) rfl (n := i + 2) (nI_addB (a := i) (b := 2) (by omega)) (by omega) (by omega) ?_
  refine px_PW.steps (frL L xs) 4 rfl ?_
  refine px_PW.siald (frL L xs) rfl (n := i + 3) (nI_addB (a := i) (b := 3) (by omega)) (by omega) (by omega) ?_
  refine px_PW.steps (frL L xs) 4 rfl ?_
  refine px_PW.siald (frL L xs) rfl (n := i + 4) (nI_addB (a := i) (b := 4) (by omega)) (by omega) (by omega) ?_
  refine px_PW.steps (frL L xs) 4 rfl ?_
  refine px_PW.siald (frL L xs) rfl (n := i + 5) (nI_addB (a := i) (b := 5) (by omega)) (by omega) (by omega) ?_
  refine px_PW.callV (frL L xs) rfl rfl rfl rfl p2 (by decide) (fun v h1 q => ?_)
  obtain ⟨rfl, rfl⟩ := q
  refine px_PW.steps (frL L xs) 2 rfl ?_
  exact k _ _ _ _ _ hR
theorem lw_29 {L : Nat} {xs : Nat → Int32} {i : Nat} (hi : i + 6 ≤ L) (hL : L ≤ 3072) {Z N Zm : Nat → Int32} {F G : Nat → Nat → Int32} (h : RR Z N F Zm G) {Q : Option Value → px_H → Prop} (k : ∀ (Z' N' : Nat → Int32) (F' : Nat → Nat → Int32) (Zm' : Nat → Int32) (G' : Nat → Nat → Int32), RR Z' N' F' Zm' G' → px_PW 60 (pc_L L xs) Q 1317 [some (.ref 3004), some (.ref 0), some (.ref 1000), some (.int (nI i))] [] (px_CH Z' N' F', px_MH Zm' G')) : px_PW 60 (pc_L L xs) Q 1163 [some (.ref 3004), some (.ref 0), some (.ref 1000), some (.int (nI i))] [] (px_CH Z N F, px_MH Zm G) := by
  obtain ⟨a, b, Z', N', F', Zm', G', p1, p2, hR, he⟩ := px_pair (st_places (xs (i + 1))) h
  refine px_PW.steps (frL L xs) 5 rfl ?_
  refine px_PW.siald (frL L xs) rfl (n := i + 1) (nI_addB (a := i) (b := 1) (by omega)) (by omega) (by omega) ?_
  refine px_PW.callV (frL L xs) rfl rfl rfl rfl p1 (by decide) (fun v h1 q => ?_)
  obtain ⟨rfl, rfl⟩ := q
  refine px_PW.steps (frL L xs) 6 rfl ?_
  refine px_PW.siald (frL L xs) rfl (n := i + 1) (nI_addB (a := i) (b := 1) (by omega)) (by omega) (by omega) ?_
  refine px_PW.callV (frL L xs) rfl rfl rfl rfl p2 (by decide) (fun v h1 q => ?_)
  obtain ⟨rfl, rfl⟩ := q
  refine px_PW.steps (frL L xs) 2 rfl ?_
  exact k _ _ _ _ _ hR
theorem lw_30 {L : Nat} {xs : Nat → Int32} {i : Nat} (hi : i + 6 ≤ L) (hL : L ≤ 3072) {Z N Zm : Nat → Int32} {F G : Nat → Nat → Int32} (h : RR Z N F Zm G) {Q : Option Value → px_H → Prop} (k : ∀ (Z' N' : Nat → Int32) (F' : Nat → Nat → Int32) (Zm' : Nat → Int32) (G' : Nat → Nat → Int32), RR Z' N' F' Zm' G' → px_PW 60 (pc_L L xs) Q 1317 [some (.ref 3004), some (.ref 0), some (.ref 1000), some (.int (nI i))] [] (px_CH Z' N' F', px_MH Zm' G')) : px_PW 60 (pc_L L xs) Q 1186 [some (.ref 3004), some (.ref 0), some (.ref 1000), some (.int (nI i))] [] (px_CH Z N F, px_MH Zm G) := by
  obtain ⟨a, b, Z', N', F', Zm', G', p1, p2, hR, he⟩ := px_pair (st_judgeT (xs (i + 1))) h
  refine px_PW.steps (frL L xs) 5 rfl ?_
  refine px_PW.siald (frL L xs) rfl (n := i + 1) (nI_addB (a := i) (b := 1) (by omega)) (by omega) (by omega) ?_
  refine px_PW.callV (frL L xs) rfl rfl rfl rfl p1 (by decide) (fun v h1 q => ?_)
  obtain ⟨rfl, rfl⟩ := q
  refine px_PW.steps (frL L xs) 6 rfl ?_
  refine px_PW.siald (frL L xs) rfl (n := i + 1) (nI_addB (a := i) (b := 1) (by omega)) (by omega) (by omega) ?_
  refine px_PW.callV (frL L xs) rfl rfl rfl rfl p2 (by decide) (fun v h1 q => ?_)
  obtain ⟨rfl, rfl⟩ := q
  refine px_PW.steps (frL L xs) 2 rfl ?_
  exact k _ _ _ _ _ hR
theorem lw_31 {L : Nat} {xs : Nat → Int32} {i : Nat} (hi : i + 6 ≤ L) (hL : L ≤ 3072) {Z N Zm : Nat → Int32} {F G : Nat → Nat → Int32} (h : RR Z N F Zm G) {Q : Option Value → px_H → Prop} (k : ∀ (Z' N' : Nat → Int32) (F' : Nat → Nat → Int32) (Zm' : Nat → Int32) (G' : Nat → Nat → Int32), RR Z' N' F' Zm' G' → px_PW 60 (pc_L L xs) Q 1317 [some (.ref 3004), some (.ref 0), some (.ref 1000), some (.int (nI i))] [] (px_CH Z' N' F', px_MH Zm' G')) : px_PW 60 (pc_L L xs) Q 1209 [some (.ref 3004), some (.ref 0), some (.ref 1000), some (.int (nI i))] [] (px_CH Z N F, px_MH Zm G) := by
  obtain ⟨a, b, Z', N', F', Zm', G', p1, p2, hR, he⟩ := px_pair (st_image ) h
  refine px_PW.steps (frL L xs) 1 rfl ?_
  refine px_PW.callV (frL L xs) rfl rfl rfl rfl p1 (by decide) (fun v h1 q => ?_)
  obtain ⟨rfl, rfl⟩ := q
  refine px_PW.steps (frL L xs) 2 rfl ?_
  refine px_PW.callV (frL L xs) rfl rfl rfl rfl p2 (by decide) (fun v h1 q => ?_)
  obtain ⟨rfl, rfl⟩ := q
  refine px_PW.steps (frL L xs) 2 rfl ?_
  exact k _ _ _ _ _ hR
theorem lw_32 {L : Nat} {xs : Nat → Int32} {i : Nat} (hi : i + 6 ≤ L) (hL : L ≤ 3072) {Z N Zm : Nat → Int32} {F G : Nat → Nat → Int32} (h : RR Z N F Zm G) {Q : Option Value → px_H → Prop} (k : ∀ (Z' N' : Nat → Int32) (F' : Nat → Nat → Int32) (Zm' : Nat → Int32) (G' : Nat → Nat → Int32), RR Z' N' F' Zm' G' → px_PW 60 (pc_L L xs) Q 1317 [some (.ref 3004), some (.ref 0), some (.ref 1000), some (.int (nI i))] [] (px_CH Z' N' F', px_MH Zm' G')) : px_PW 60 (pc_L L xs) Q 1222 [some (.ref 3004), some (.ref 0), some (.ref 1000), some (.int (nI i))] [] (px_CH Z N F, px_MH Zm G) := by
  obtain ⟨a, b, Z', N', F', Zm', G', p1, p2, hR, he⟩ := px_pair (st_restore ) h
  refine px_PW.steps (frL L xs) 1 rfl ?_
  refine px_PW.callV (frL L xs) rfl rfl rfl rfl p1 (by decide) (fun v h1 q => ?_)
  obtain ⟨rfl, rfl⟩ := q
  refine px_PW.steps (frL L xs) 2 rfl ?_
  refine px_PW.callV (frL L xs) rfl rfl rfl rfl p2 (by decide) (fun v h1 q => ?_)
  obtain ⟨rfl, rfl⟩ := q
  refine px_PW.steps (frL L xs) 2 rfl ?_
  exact k _ _ _ _ _ hR
theorem lw_33 {L : Nat} {xs : Nat → Int32} {i : Nat} (hi : i + 6 ≤ L) (hL : L ≤ 3072) {Z N Zm : Nat → Int32} {F G : Nat → Nat → Int32} (h : RR Z N F Zm G) {Q : Option Value → px_H → Prop} (k : ∀ (Z' N' : Nat → Int32) (F' : Nat → Nat → Int32) (Zm' : Nat → Int32) (G' : Nat → Nat → Int32), RR Z' N' F' Zm' G' → px_PW 60 (pc_L L xs) Q 1317 [some (.ref 3004), some (.ref 0), some (.ref 1000), some (.int (nI i))] [] (px_CH Z' N' F', px_MH Zm' G')) : px_PW 60 (pc_L L xs) Q 1235 [some (.ref 3004), some (.ref 0), some (.ref 1000), some (.int (nI i))] [] (px_CH Z N F, px_MH Zm G) := by
  obtain ⟨a, b, Z', N', F', Zm', G', p1, p2, hR, he⟩ := px_pair (st_tell (xs (i + 1))) h
  refine px_PW.steps (frL L xs) 5 rfl ?_
  refine px_PW.siald (frL L xs) rfl (n := i + 1) (nI_addB (a := i) (b := 1) (by omega)) (by omega) (by omega) ?_
  refine px_PW.callV (frL L xs) rfl rfl rfl rfl p1 (by decide) (fun v h1 q => ?_)
  obtain ⟨rfl, rfl⟩ := q
  refine px_PW.steps (frL L xs) 6 rfl ?_
  refine px_PW.siald (frL L xs) rfl (n := i + 1) (nI_addB (a := i) (b := 1) (by omega)) (by omega) (by omega) ?_
  refine px_PW.callV (frL L xs) rfl rfl rfl rfl p2 (by decide) (fun v h1 q => ?_)
  obtain ⟨rfl, rfl⟩ := q
  refine px_PW.steps (frL L xs) 2 rfl ?_
  exact k _ _ _ _ _ hR
theorem lw_34 {L : Nat} {xs : Nat → Int32} {i : Nat} (hi : i + 6 ≤ L) (hL : L ≤ 3072) {Z N Zm : Nat → Int32} {F G : Nat → Nat → Int32} (h : RR Z N F Zm G) {Q : Option Value → px_H → Prop} (k : ∀ (Z' N' : Nat → Int32) (F' : Nat → Nat → Int32) (Zm' : Nat → Int32) (G' : Nat → Nat → Int32), RR Z' N' F' Zm' G' → px_PW 60 (pc_L L xs) Q 1317 [some (.ref 3004), some (.ref 0), some (.ref 1000), some (.int (nI i))] [] (px_CH Z' N' F', px_MH Zm' G')) : px_PW 60 (pc_L L xs) Q 1258 [some (.ref 3004), some (.ref 0), some (.ref 1000), some (.int (nI i))] [] (px_CH Z N F, px_MH Zm G) := by
  obtain ⟨a, b, Z', N', F', Zm', G', p1, p2, hR, he⟩ := px_pair (st_check ) h
  refine px_PW.steps (frL L xs) 1 rfl ?_
  refine px_PW.callV (frL L xs) rfl rfl rfl rfl p1 (by decide) (fun v h1 q => ?_)
  obtain ⟨rfl, rfl⟩ := q
  refine px_PW.steps (frL L xs) 1 rfl ?_
  refine px_PW.callV (frL L xs) rfl rfl rfl rfl p2 (by decide) (fun v h1 q => ?_)
  obtain ⟨rfl, rfl⟩ := q
  have e := he trivial
  subst e
  refine px_PW.steps (frL L xs) 1 rfl ?_
  refine px_PW.br (fun _ => k _ _ _ _ _ hR) (fun q => ?_)
  exact absurd rfl (of_decide_eq_false q)
theorem lw_35 {L : Nat} {xs : Nat → Int32} {i : Nat} (hi : i + 6 ≤ L) (hL : L ≤ 3072) {Z N Zm : Nat → Int32} {F G : Nat → Nat → Int32} (h : RR Z N F Zm G) {Q : Option Value → px_H → Prop} (k : ∀ (Z' N' : Nat → Int32) (F' : Nat → Nat → Int32) (Zm' : Nat → Int32) (G' : Nat → Nat → Int32), RR Z' N' F' Zm' G' → px_PW 60 (pc_L L xs) Q 1317 [some (.ref 3004), some (.ref 0), some (.ref 1000), some (.int (nI i))] [] (px_CH Z' N' F', px_MH Zm' G')) : px_PW 60 (pc_L L xs) Q 1271 [some (.ref 3004), some (.ref 0), some (.ref 1000), some (.int (nI i))] [] (px_CH Z N F, px_MH Zm G) := by
  obtain ⟨a, b, Z', N', F', Zm', G', p1, p2, hR, he⟩ := px_pair (st_count (xs (i + 1))) h
  refine px_PW.steps (frL L xs) 5 rfl ?_
  refine px_PW.siald (frL L xs) rfl (n := i + 1) (nI_addB (a := i) (b := 1) (by omega)) (by omega) (by omega) ?_
  refine px_PW.callV (frL L xs) rfl rfl rfl rfl p1 (by decide) (fun v h1 q => ?_)
  obtain ⟨rfl, rfl⟩ := q
  refine px_PW.steps (frL L xs) 6 rfl ?_
  refine px_PW.siald (frL L xs) rfl (n := i + 1) (nI_addB (a := i) (b := 1) (by omega)) (by omega) (by omega) ?_
  refine px_PW.callV (frL L xs) rfl rfl rfl rfl p2 (by decide) (fun v h1 q => ?_)
  obtain ⟨rfl, rfl⟩ := q
  refine px_PW.steps (frL L xs) 2 rfl ?_
  exact k _ _ _ _ _ hR
theorem lw_36 {L : Nat} {xs : Nat → Int32} {i : Nat} (hi : i + 6 ≤ L) (hL : L ≤ 3072) {Z N Zm : Nat → Int32} {F G : Nat → Nat → Int32} (h : RR Z N F Zm G) {Q : Option Value → px_H → Prop} (k : ∀ (Z' N' : Nat → Int32) (F' : Nat → Nat → Int32) (Zm' : Nat → Int32) (G' : Nat → Nat → Int32), RR Z' N' F' Zm' G' → px_PW 60 (pc_L L xs) Q 1317 [some (.ref 3004), some (.ref 0), some (.ref 1000), some (.int (nI i))] [] (px_CH Z' N' F', px_MH Zm' G')) : px_PW 60 (pc_L L xs) Q 1294 [some (.ref 3004), some (.ref 0), some (.ref 1000), some (.int (nI i))] [] (px_CH Z N F, px_MH Zm G) := by
  obtain ⟨a, b, Z', N', F', Zm', G', p1, p2, hR, he⟩ := px_pair (st_told (xs (i + 1))) h
  refine px_PW.steps (frL L xs) 5 rfl ?_
  refine px_PW.siald (frL L xs) rfl (n := i + 1) (nI_addB (a := i) (b := 1) (by omega)) (by omega) (by omega) ?_
  refine px_PW.callV (frL L xs) rfl rfl rfl rfl p1 (by decide) (fun v h1 q => ?_)
  obtain ⟨rfl, rfl⟩ := q
  refine px_PW.steps (frL L xs) 6 rfl ?_
  refine px_PW.siald (frL L xs) rfl (n := i + 1) (nI_addB (a := i) (b := 1) (by omega)) (by omega) (by omega) ?_
  refine px_PW.callV (frL L xs) rfl rfl rfl rfl p2 (by decide) (fun v h1 q => ?_)
  obtain ⟨rfl, rfl⟩ := q
  refine px_PW.steps (frL L xs) 2 rfl ?_
  exact k _ _ _ _ _ hR
