/-! both halves hold the same -/
/-- the reference's row of numbers is in order -/
def g_row_ok (f : Nat → Int32) : Prop := g_wall f ∧ (∃ P : Nat, P ≤ 60 ∧ f 8 = nI P) ∧ (∃ W : Nat, W ≤ 24 ∧ f 9 = nI W) ∧ (∃ M : Nat, M ≤ 6 ∧ f 10 = nI M ∧ ∀ n : Nat, n < M → (∃ a : Nat, a < 7 ∧ f (12 + 4 * n + 0) = nI a) ∧ (∃ a : Nat, a ≤ 9 ∧ f (12 + 4 * n + 1) = nI a) ∧ (∃ a : Nat, a ≤ 4000 ∧ f (12 + 4 * n + 2) = nI a) ∧ (∃ a : Nat, 1 ≤ a ∧ a ≤ 999 ∧ f (12 + 4 * n + 3) = nI a)) ∧ r_txf0 f ∧ r_txf1 f
/-- rows from q on of the system, with z, hold what the reference's row holds (but for TEXTS) -/
def g_rel (q : Nat) (z : Int32) (N : Nat → Int32) (F : Nat → Nat → Int32) (f : Nat → Int32) : Prop := (∀ i : Nat, i < 7 → F q i = f i) ∧ z = f 7 ∧ (N (q + 5) = f 8 ∧ N (q + 8) = f 9) ∧ (N (q + 1) = f 10 ∧ N (q + 2) = f 10 ∧ N (q + 3) = f 10 ∧ N (q + 4) = f 10) ∧ (∀ n : Nat, n < (f 10).toNatClampNeg → F (q + 1) n = f (12 + 4 * n + 0) ∧ F (q + 2) n = f (12 + 4 * n + 1) ∧ F (q + 3) n = f (12 + 4 * n + 2) ∧ F (q + 4) n = f (12 + 4 * n + 3)) ∧ (∀ i : Nat, i < (f 8).toNatClampNeg → F (q + 5) i = f (286 + i)) ∧ (∀ i : Nat, i < (f 9).toNatClampNeg → F (q + 8) i = f (346 + i))
def g_sh (Z N : Nat → Int32) (F G : Nat → Nat → Int32) : Prop := ∀ k : Nat, k < 4 → Z (2 + k) = G 11 k ∧ (G 11 k = 0 ∨ G 11 k = 8 ∨ G 11 k = 16 ∨ G 11 k = 32) ∧ (∃ S : Nat, S ≤ 24 ∧ G 12 k = nI S) ∧ (¬ (G 11 k = 0) → N (19 + k) = G 12 k ∧ ∀ i : Nat, i < (G 12 k).toNatClampNeg → F (19 + k) i = G 13 (24 * k + i))
def RR (Z N : Nat → Int32) (F : Nat → Nat → Int32) (Zm : Nat → Int32) (G : Nat → Nat → Int32) : Prop := px_cw N ∧ g_row_ok (G 0) ∧ g_rel 0 (Z 0) N F (G 0) ∧ Z 21 = Zm 0 ∧ (¬ (Z 21 = 0) → g_row_ok (G 1) ∧ g_rel 9 (Z 1) N F (G 1)) ∧ g_sh Z N F G ∧ G 3 = px_K0 ∧ G 4 = px_K1 ∧ (0 ≤ Zm 6 ∧ (Zm 6).toInt ≤ 30) ∧ TX Z N F G
theorem g_rel_sc {q : Nat} (hq : q = 0 ∨ q = 9) {z : Int32} {Z N Z' N' : Nat → Int32} {F F' : Nat → Nat → Int32} {f : Nat → Int32} (h : g_rel q z N F f) (hs : px_sc Z N F Z' N' F') : g_rel q z N' F' f := by
  obtain ⟨a1, a2, ⟨a3, a4⟩, ⟨a5, a6, a7, a8⟩, a9, a10, a11⟩ := h
  have eN : ∀ i : Nat, i ≤ 8 → N' (q + i) = N (q + i) := fun i hi => hs.2.1 _ (by omega)
  have eF : ∀ i : Nat, i ≤ 8 → F' (q + i) = F (q + i) := fun i hi => hs.2.2.1 _ (by omega)
  have e0 : F' q = F q := eF 0 (by omega)
  rw [g_rel, e0, eN 5 (by omega), eN 8 (by omega), eN 1 (by omega), eN 2 (by omega), eN 3 (by omega), eN 4 (by omega), eF 1 (by omega), eF 2 (by omega), eF 3 (by omega), eF 4 (by omega), eF 5 (by omega), eF 8 (by omega)]
  exact ⟨a1, a2, ⟨a3, a4⟩, ⟨a5, a6, a7, a8⟩, a9, a10, a11⟩
/-- scratch matters to neither -/
theorem RR.sc {Z N Z' N' Zm Zm' : Nat → Int32} {F F' G G' : Nat → Nat → Int32} (h : RR Z N F Zm G) (hs : px_sc Z N F Z' N' F') (hm : px_sm Zm G Zm' G') : RR Z' N' F' Zm' G' := by
  obtain ⟨b0, b1, b2, b3, b4, b5, b6, b7, b8⟩ := h
  obtain ⟨m0, m1, m2, m3, m4, m5, m6, m7, m8⟩ := hm
  have z0 : Z' 0 = Z 0 := hs.1 0 (by omega)
  have z1 : Z' 1 = Z 1 := hs.1 1 (by omega)
  have z21 : Z' 21 = Z 21 := hs.1 21 (by omega)
  refine ⟨hs.2.2.2 b0, by rw [m2]; exact b1, by rw [m2, z0]; exact g_rel_sc (Or.inl rfl) b2 hs, by rw [z21, m0]; exact b3, ?_, ?_, by rw [m4]; exact b6, by rw [m5]; exact b7, m1 b8.1, b8.2.cg z21 (fun q hq => hs.2.1 q (by omega)) (fun q hq => hs.2.2.1 q (by omega)) (fun j _ => by rw [m2]) m3⟩
  · rw [z21, m3, z1]
    exact fun hz => ⟨(b4 hz).1, g_rel_sc (Or.inr rfl) (b4 hz).2 hs⟩
  · intro k hk
    rw [m6, m7, m8, hs.1 (2 + k) (by omega), hs.2.1 (19 + k) (by omega), hs.2.2.1 (19 + k) (by omega)]
    exact b5 k hk
theorem px_PM.ex {d j : Nat} {as : List Value} {h : px_H} {Q : Option Value → px_H → Prop} (hp : px_PM d j as h Q) : ∃ v h', Q v h' ∧ ∀ d2 : Nat, d ≤ d2 → px_PM d2 j as h (fun r h2 => r = v ∧ h2 = h') := by
  obtain ⟨n, v, h', h1, h2⟩ := hp
  exact ⟨v, h', h2, fun d2 hd => ⟨n, v, h', px_mono hd (Nat.le_refl n) h1, rfl, rfl⟩⟩
/-- one call of both: they return, what they hold stays the same; c: the answers are equal -/
def px_st (jc jm : Nat) (as : List Value) (c : Prop) : Prop := ∀ (Z N : Nat → Int32) (F : Nat → Nat → Int32) (Zm : Nat → Int32) (G : Nat → Nat → Int32), RR Z N F Zm G → ∃ (a b : Int32) (Z' N' : Nat → Int32) (F' : Nat → Nat → Int32) (Zm' : Nat → Int32) (G' : Nat → Nat → Int32), px_PM 50 jc (.ref 0 :: as) (px_CH Z N F, []) (fun r h' => r = some (.int a) ∧ h' = (px_CH Z' N' F', [])) ∧ px_PM 50 jm (.ref 1000 :: as) ([], px_MH Zm G) (fun r h' => r = some (.int b) ∧ h' = ([], px_MH Zm' G')) ∧ RR Z' N' F' Zm' G' ∧ (c → a = b)
/-- from both contracts: a call whose state goes to (Z1, N1, F1) and (Zm1, G1), scratch aside -/
theorem px_st_of {jc jm d1 d2 : Nat} {as : List Value} {c : Prop} {Z N Z1 N1 Zm Zm1 : Nat → Int32} {F F1 G G1 : Nat → Nat → Int32} {a b : Int32} (hc : px_PM d1 jc (.ref 0 :: as) (px_CH Z N F, []) (fun r h' => r = some (.int a) ∧ ∃ Z' N' F', px_sc Z1 N1 F1 Z' N' F' ∧ h' = (px_CH Z' N' F', []))) (hd1 : d1 ≤ 50) (hm : px_PM d2 jm (.ref 1000 :: as) ([], px_MH Zm G) (fun r h' => r = some (.int b) ∧ ∃ Z' F', px_sm Zm1 G1 Z' F' ∧ h' = ([], px_MH Z' F'))) (hd2 : d2 ≤ 50) (hR : RR Z1 N1 F1 Zm1 G1) (he : c → a = b) :
    ∃ (a b : Int32) (Z' N' : Nat → Int32) (F' : Nat → Nat → Int32) (Zm' : Nat → Int32) (G' : Nat → Nat → Int32), px_PM 50 jc (.ref 0 :: as) (px_CH Z N F, []) (fun r h' => r = some (.int a) ∧ h' = (px_CH Z' N' F', [])) ∧ px_PM 50 jm (.ref 1000 :: as) ([], px_MH Zm G) (fun r h' => r = some (.int b) ∧ h' = ([], px_MH Zm' G')) ∧ RR Z' N' F' Zm' G' ∧ (c → a = b) := by
  obtain ⟨v, h', ⟨rfl, Z', N', F', hs, rfl⟩, hp⟩ := hc.ex
  obtain ⟨v2, h2, ⟨rfl, Zm', G', hs2, rfl⟩, hp2⟩ := hm.ex
  exact ⟨a, b, Z', N', F', Zm', G', hp 50 hd1, hp2 50 hd2, hR.sc hs hs2, he⟩
theorem RR.tt {Z N Zm : Nat → Int32} {F G : Nat → Nat → Int32} (h : RR Z N F Zm G) : g_tt 0 N F (G 0) := h.2.2.2.2.2.2.2.2.2.1
theorem RR.tk {Z N Zm : Nat → Int32} {F G : Nat → Nat → Int32} (h : RR Z N F Zm G) (hz : ¬ (Z 21 = 0)) : g_tt 9 N F (G 1) := h.2.2.2.2.2.2.2.2.2.2 hz
theorem RR.hT {Z N Zm : Nat → Int32} {F G : Nat → Nat → Int32} (h : RR Z N F Zm G) : N 2 = N 1 ∧ N 3 = N 1 ∧ N 4 = N 1 := by
  obtain ⟨-, -, ⟨-, -, -, ⟨a5, a6, a7, a8⟩, -⟩, -⟩ := h
  exact ⟨a6.trans a5.symm, a7.trans a5.symm, a8.trans a5.symm⟩
theorem RR.M {Z N Zm : Nat → Int32} {F G : Nat → Nat → Int32} (h : RR Z N F Zm G) : G 0 10 = nI (G 0 10).toNatClampNeg ∧ (G 0 10).toNatClampNeg ≤ 6 ∧ N 1 = nI (G 0 10).toNatClampNeg ∧ N 3 = nI (G 0 10).toNatClampNeg := by
  obtain ⟨-, ⟨-, -, -, ⟨M, hM, e, -⟩, -⟩, ⟨-, -, -, ⟨a5, a6, a7, a8⟩, -⟩, -⟩ := h
  rw [a5, a7, e, nI_clamp (by omega)]
  exact ⟨rfl, hM, rfl, rfl⟩
theorem RR.wall {Z N Zm : Nat → Int32} {F G : Nat → Nat → Int32} (h : RR Z N F Zm G) : g_wall (G 0) := h.2.1.1
theorem RR.F0 {Z N Zm : Nat → Int32} {F G : Nat → Nat → Int32} (h : RR Z N F Zm G) {i : Nat} (hi : i < 7) : F 0 i = G 0 i := h.2.2.1.1 i hi
theorem px_neg {x : Int32} : ¬ (x < 0) ↔ 0 ≤ x := Int32.not_lt
theorem px_out {x lo hi : Int32} : ¬ (x < lo ∨ hi < x) ↔ lo ≤ x ∧ x ≤ hi := by
  rw [not_or, Int32.not_lt, Int32.not_lt]
/-- a THING's number, asked of both -/
theorem px_thq {x t : Int32} {M : Nat} (hM : x = nI M) (hM6 : M ≤ 6) : ¬ (t < 0 ∨ x ≤ t) ↔ 0 ≤ t ∧ t ≤ x - 1 := by
  subst hM
  rw [not_or, Int32.not_lt, Int32.not_le]
  constructor
  · intro h
    refine ⟨h.1, ?_⟩
    obtain ⟨n, hn, rfl⟩ := nI_of (Int32.not_lt.mpr h.1)
    have h2 := (nI_ltI (by omega) (by omega)).mp h.2
    exact px_pred h2 (by omega)
  · intro h
    refine ⟨h.1, ?_⟩
    have g := px_inS (x := nI M) rfl (by omega) h
    rw [g.1]
    exact nI_lt g.2 (by omega)
theorem st_wallIs (what : Int32) : px_st 50 159 [.int what] True := by
  intro Z N F Zm G h
  refine px_st_of (kc_wallIs h.1 what) (by decide) (kc_mwallIs what) (by decide) h (fun _ => ?_)
  unfold s_wallIs s_mwallIs
  by_cases c : 0 ≤ what ∧ what ≤ 6
  · obtain ⟨e, hl⟩ := px_in5 (n := 6) (by decide) c
    rw [if_pos c, if_neg (Int32.not_lt.mpr c.1), if_pos c.2]
    exact h.F0 hl
  · rw [if_neg c]
    by_cases c1 : what < 0
    · rw [if_pos c1]
    · rw [if_neg c1, if_neg (fun q => c ⟨Int32.not_lt.mp c1, q⟩)]
theorem st_thingIs (thing what : Int32) : px_st 53 163 [.int thing, .int what] True := by
  intro Z N F Zm G h
  have hM := h.M
  refine px_st_of (kc_thingIs h.1 h.hT thing what) (by decide) (kc_mthingIs hM.1 hM.2.1 thing what) (by decide) h (fun _ => ?_)
  unfold s_thingIs s_mthingIs
  have hq := px_thq (t := thing) hM.1 hM.2.1
  have e1 : N 1 = G 0 10 := h.2.2.1.2.2.2.1.1
  rw [e1]
  by_cases c : thing < 0 ∨ G 0 10 ≤ thing
  · rw [if_pos c, if_neg (fun q => hq.mpr q c)]
  · have c2 := hq.mp c
    obtain ⟨e, hl, -⟩ := px_thN hM.1 hM.2.1 c2
    rw [if_neg c, if_pos c2]
    have hr := h.2.2.1.2.2.2.2.1 _ hl
    by_cases cw : 0 ≤ what ∧ what ≤ 3
    · rw [if_pos cw]
      obtain ⟨ew, hw⟩ := px_in5 (n := 3) (by decide) cw
      generalize what.toNatClampNeg = k at ew hw
      subst ew
      rcases (show k = 0 ∨ k = 1 ∨ k = 2 ∨ k = 3 by omega) with rfl | rfl | rfl | rfl
      · exact hr.1
      · exact hr.2.1
      · exact hr.2.2.1
      · exact hr.2.2.2
    · rw [if_neg cw]
      rw [if_neg (fun q => cw (by rw [q]; decide)), if_neg (fun q => cw (by rw [q]; decide)), if_neg (fun q => cw (by rw [q]; decide)), if_neg (fun q => cw (by rw [q]; decide))]
theorem st_count (what : Int32) : px_st 84 205 [.int what] (¬ (what = 4)) := by
  intro Z N F Zm G h
  refine px_st_of (kc_count h.1 what) (by decide) (kc_mcount what) (by decide) h (fun c4 => ?_)
  unfold s_count s_mcount
  obtain ⟨-, -, ⟨a1, a2, ⟨a3, a4⟩, ⟨a5, -⟩, -⟩, -⟩ := h
  rw [if_neg c4, if_neg c4, a5, a1 6 (by omega), a3, a4, a2]
