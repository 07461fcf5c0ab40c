/-! part 54.things -/
section
/-! calls that change THINGS, what waits, THE TAPE -/
def g_th (f : Nat → Int32) (n : Nat) : Prop := (∃ a : Nat, a < 7 ∧ f (12 + 4 * n + 0) = nI a) ∧ (∃ a : Nat, a ≤ 9 ∧ f (12 + 4 * n + 1) = nI a) ∧ (∃ a : Nat, a ≤ 4000 ∧ f (12 + 4 * n + 2) = nI a) ∧ (∃ a : Nat, 1 ≤ a ∧ a ≤ 999 ∧ f (12 + 4 * n + 3) = nI a)
def g_te (F : Nat → Nat → Int32) (f : Nat → Int32) (n : Nat) : Prop := F 1 n = f (12 + 4 * n + 0) ∧ F 2 n = f (12 + 4 * n + 1) ∧ F 3 n = f (12 + 4 * n + 2) ∧ F 4 n = f (12 + 4 * n + 3)
theorem g_wall_congr {f g : Nat → Int32} (h : g_wall f) (he : ∀ j : Nat, j < 7 → g j = f j) : g_wall g := by
  obtain ⟨L, T, J, R, B, S, h0, h1, h2, h4, h5, h6, r⟩ := h
  refine ⟨L, T, J, R, B, S, (he 0 (by omega)).trans h0, (he 1 (by omega)).trans h1, (he 2 (by omega)).trans h2, (he 4 (by omega)).trans h4, (he 5 (by omega)).trans h5, (he 6 (by omega)).trans h6, ?_⟩
  rw [he 3 (by omega)]
  exact r
/-- all of the rows now may change; what is to be shown of them -/
theorem RR.now {Z Z' N N' Zm : Nat → Int32} {F F' G : Nat → Nat → Int32} {g : Nat → Int32} (h : RR Z N F Zm G) (hz : ∀ j : Nat, j ≠ 0 → Z' j = Z j) (hN : ∀ j : Nat, 9 ≤ j → N' j = N j) (hF : ∀ j : Nat, 9 ≤ j → F' j = F j) (hw : px_cw N') (hg : g_row_ok g) (hr : g_rel 0 (Z' 0) N' F' g) (hx : g_tt 0 N' F' g) : RR Z' N' F' Zm (va_up G 0 g) := by
  obtain ⟨b0, b1, b2, b3, b4, b5, b6, b7, b8⟩ := h
  refine ⟨hw, hg, hr, (hz 21 (by omega)).trans b3, ?_, g_sh_far b5 (fun j h1 h2 => hz j (by omega)) (fun j h1 h2 => hN j (by omega)) (fun j h1 h2 => hF j (by omega)) ⟨rfl, rfl, rfl⟩, b6, b7, b8.1, hx, fun q => (b8.2.2 (by rw [← hz 21 (by omega)]; exact q)).cg ⟨hN 15 (by omega), hN 16 (by omega)⟩ ⟨hF 15 (by omega), hF 16 (by omega)⟩ (fun _ _ => rfl)⟩
  rw [hz 21 (by omega), hz 1 (by omega)]
  exact fun q => ⟨(b4 q).1, g_rel_far (b4 q).2 (fun j h1 h2 => hN j (by omega)) (fun j h1 h2 => hF j (by omega))⟩
theorem RR.things {Z N Zm : Nat → Int32} {F F' G : Nat → Nat → Int32} {g : Nat → Int32} (h : RR Z N F Zm G) (he : ∀ j : Nat, j < 12 ∨ 36 ≤ j → g j = G 0 j) (hF : ∀ j : Nat, j = 0 ∨ 5 ≤ j → F' j = F j) (ht : ∀ n : Nat, n < (G 0 10).toNatClampNeg → g_th g n ∧ g_te F' g n) : RR Z N F' Zm (va_up G 0 g) := by
  obtain ⟨b0, b1, b2, b3, b4, b5, b6, b7, b8⟩ := h
  obtain ⟨w0, ⟨P, p1, p2⟩, ⟨W, w1, w2⟩, ⟨M, m1, m2, m3⟩, t0, t1⟩ := b1
  have htx := r_txf_congr (g := g) (fun j h1 h2 => he j (by omega)) t0 t1
  have eM : (G 0 10).toNatClampNeg = M := by rw [m2, nI_clamp (by omega)]
  rw [eM] at ht
  obtain ⟨a1, a2, ⟨a3, a4⟩, ⟨a5, a6, a7, a8⟩, a9, a10, a11⟩ := b2
  refine RR.now (N := N) ⟨b0, ⟨w0, ⟨P, p1, p2⟩, ⟨W, w1, w2⟩, ⟨M, m1, m2, m3⟩, t0, t1⟩, ⟨a1, a2, ⟨a3, a4⟩, ⟨a5, a6, a7, a8⟩, a9, a10, a11⟩, b3, b4, b5, b6, b7, b8⟩ (fun _ _ => rfl) (fun _ _ => rfl) (fun j hj => hF j (by omega)) b0 ?_ ?_ (b8.2.1.cg ⟨rfl, rfl⟩ ⟨hF 6 (by omega), hF 7 (by omega)⟩ (fun j hj => he j (by omega)))
  · exact ⟨g_wall_congr w0 (fun j hj => he j (by omega)), ⟨P, p1, (he 8 (by omega)).trans p2⟩, ⟨W, w1, (he 9 (by omega)).trans w2⟩, ⟨M, m1, (he 10 (by omega)).trans m2, fun n hn => (ht n hn).1⟩, htx.1, htx.2⟩
  · refine ⟨fun i hi => ?_, a2.trans (he 7 (by omega)).symm, ⟨a3.trans (he 8 (by omega)).symm, a4.trans (he 9 (by omega)).symm⟩, ?_, ?_, ?_, ?_⟩
    · rw [hF 0 (by omega), he i (by omega)]; exact a1 i hi
    · rw [he 10 (by omega)]; exact ⟨a5, a6, a7, a8⟩
    · rw [he 10 (by omega), eM]; exact fun n hn => (ht n hn).2
    · rw [he 8 (by omega), hF (0 + 5) (by omega)]
      intro i hi
      rw [he _ (by omega)]
      exact a10 i hi
    · rw [he 9 (by omega), hF (0 + 8) (by omega)]
      intro i hi
      rw [he _ (by omega)]
      exact a11 i hi
theorem RR.th {Z N Zm : Nat → Int32} {F G : Nat → Nat → Int32} (h : RR Z N F Zm G) {n : Nat} (hn : n < (G 0 10).toNatClampNeg) : g_th (G 0) n ∧ g_te F (G 0) n := by
  obtain ⟨-, ⟨-, -, -, ⟨M, m1, m2, m3⟩, -, -⟩, ⟨-, -, -, -, a9, -⟩, -⟩ := h
  have eM : (G 0 10).toNatClampNeg = M := by rw [m2, nI_clamp (by omega)]
  exact ⟨m3 n (by omega), a9 n hn⟩
theorem st_hang (thing from_ : Int32) : px_st 56 166 [.int thing, .int from_] True := by
  intro Z N F Zm G h
  have hM := h.M
  have hc := kc_hang (Z := Z) (F := F) h.1 h.hT thing from_
  have hm := kc_mhang (Z := Zm) (F := G) hM.1 hM.2.1 thing from_
  have hq := px_thq (t := thing) hM.1 hM.2.1
  have e1 : N 1 = G 0 10 := h.2.2.1.2.2.2.1.1
  by_cases c : thing < 0 ∨ G 0 10 ≤ thing
  · rw [show s_hang Z N F thing from_ = (-1000000000 - 1, Z, N, F) from if_pos (by rw [e1]; exact c)] at hc
    rw [show s_mhang Zm G thing from_ = (-1000000000 - 1, Zm, G) from if_neg (fun q => hq.mpr q c)] at hm
    exact px_st_of (c := True) hc (by decide) hm (by decide) h (fun _ => rfl)
  · have c2 := hq.mp c
    obtain ⟨e, hl, -⟩ := px_thN hM.1 hM.2.1 c2
    by_cases cf : from_ < 0 ∨ 4000 < from_
    · rw [show s_hang Z N F thing from_ = (-1000000000 - 1, Z, N, F) from (if_neg (by rw [e1]; exact c)).trans (if_pos cf)] at hc
      rw [show s_mhang Zm G thing from_ = (-1000000000 - 1, Zm, G) from (if_pos c2).trans (if_neg (fun q => px_out.mpr q cf))] at hm
      exact px_st_of (c := True) hc (by decide) hm (by decide) h (fun _ => rfl)
    · have cf2 := px_out.mp cf
      rw [show s_hang Z N F thing from_ = (F 3 thing.toNatClampNeg, Z, N, va_up F 3 (upd (F 3) thing.toNatClampNeg from_)) from (if_neg (by rw [e1]; exact c)).trans (if_neg cf)] at hc
      rw [show s_mhang Zm G thing from_ = (G 0 (12 + 4 * thing.toNatClampNeg + 2), Zm, va_up G 0 (upd (G 0) (12 + 4 * thing.toNatClampNeg + 2) from_)) from (if_pos c2).trans (if_pos cf2)] at hm
      generalize thing.toNatClampNeg = t at hc hm hl
      obtain ⟨a, -, a2, rfl⟩ := zz_rng (a := 0) (b := 4000) (by omega) (by omega) cf2.1 cf2.2
      refine px_st_of (c := True) hc (by decide) hm (by decide) (h.things (fun j hj => px_upd_ne _ _ (by omega)) (fun j hj => px_up_ne F _ (by omega)) (fun n hn => ?_)) (fun _ => (h.th hl).2.2.2.1)
      have hh := h.th hn
      by_cases cn : n = t
      · subst cn
        refine ⟨⟨?_, ?_, ⟨a, a2, px_upd_self _ _ _⟩, ?_⟩, ?_, ?_, ?_, ?_⟩
        · rw [px_upd_ne _ _ (by omega)]; exact hh.1.1
        · rw [px_upd_ne _ _ (by omega)]; exact hh.1.2.1
        · rw [px_upd_ne _ _ (by omega)]; exact hh.1.2.2.2
        · rw [px_upd_ne _ _ (by omega)]; exact hh.2.1
        · rw [px_upd_ne _ _ (by omega)]; exact hh.2.2.1
        · rw [px_upd_self]; exact px_upd_self _ _ _
        · rw [px_upd_ne _ _ (by omega)]; exact hh.2.2.2.2
      · refine ⟨?_, ?_, ?_, ?_, ?_⟩
        · unfold g_th
          rw [px_upd_ne _ _ (by omega), px_upd_ne _ _ (by omega), px_upd_ne _ _ (by omega), px_upd_ne _ _ (by omega)]; exact hh.1
        · rw [px_upd_ne _ _ (by omega)]; exact hh.2.1
        · rw [px_upd_ne _ _ (by omega)]; exact hh.2.2.1
        · rw [px_upd_ne _ _ (by omega)]; exact (px_upd_ne _ _ cn).trans hh.2.2.2.1
        · rw [px_upd_ne _ _ (by omega)]; exact hh.2.2.2.2
theorem zz_km {a : Nat} (ha : a ≤ 69) : nI a / 10 = nI (a / 10) ∧ nI a - nI a / 10 * 10 = nI (a % 10) := ⟨zz_div (b := 10) (by omega) (by omega), zz_rem (b := 10) (by omega) (by omega)⟩
theorem st_become (thing km : Int32) : px_st 54 164 [.int thing, .int km] True := by
  intro Z N F Zm G h
  have hM := h.M
  have hc := kc_become (Z := Z) (F := F) h.1 h.hT thing km
  have hm := kc_mbecome (Z := Zm) (F := G) hM.1 hM.2.1 thing km
  have hq := px_thq (t := thing) hM.1 hM.2.1
  have e1 : N 1 = G 0 10 := h.2.2.1.2.2.2.1.1
  by_cases c : thing < 0 ∨ G 0 10 ≤ thing
  · rw [show s_become Z N F thing km = (-1000000000 - 1, Z, N, F) from if_pos (by rw [e1]; exact c)] at hc
    rw [show s_mbecome Zm G thing km = (-1000000000 - 1, Zm, G) from if_neg (fun q => hq.mpr q c)] at hm
    exact px_st_of (c := True) hc (by decide) hm (by decide) h (fun _ => rfl)
  · have c2 := hq.mp c
    obtain ⟨e, hl, -⟩ := px_thN hM.1 hM.2.1 c2
    by_cases cf : km < 0 ∨ 69 < km
    · rw [show s_become Z N F thing km = (-1000000000 - 1, Z, N, F) from (if_neg (by rw [e1]; exact c)).trans (if_pos cf)] at hc
      rw [show s_mbecome Zm G thing km = (-1000000000 - 1, Zm, G) from (if_pos c2).trans (if_neg (fun q => px_out.mpr q cf))] at hm
      exact px_st_of (c := True) hc (by decide) hm (by decide) h (fun _ => rfl)
    · have cf2 := px_out.mp cf
      rw [show s_become Z N F thing km = (F 1 thing.toNatClampNeg, Z, N, va_up (va_up F 1 (upd (F 1) thing.toNatClampNeg (km / 10))) 2 (upd (F 2) thing.toNatClampNeg (km - km / 10 * 10))) from (if_neg (by rw [e1]; exact c)).trans (if_neg cf)] at hc
      rw [show s_mbecome Zm G thing km = (upd (G 0) (12 + 4 * thing.toNatClampNeg + 1) (km - km / 10 * 10) (12 + 4 * thing.toNatClampNeg + 0), Zm, va_up (va_up G 0 (upd (G 0) (12 + 4 * thing.toNatClampNeg + 1) (km - km / 10 * 10))) 0 (upd (upd (G 0) (12 + 4 * thing.toNatClampNeg + 1) (km - km / 10 * 10)) (12 + 4 * thing.toNatClampNeg + 0) (km / 10))) from (if_pos c2).trans (if_pos cf2), px_up_up] at hm
      generalize thing.toNatClampNeg = t at hc hm hl
      obtain ⟨a, -, a2, rfl⟩ := zz_rng (a := 0) (b := 69) (by omega) (by omega) cf2.1 cf2.2
      rw [(zz_km a2).2, (zz_km a2).1] at hc hm
      refine px_st_of (c := True) hc (by decide) hm (by decide) (h.things (fun j hj => ?_) (fun j hj => ?_) (fun n hn => ?_)) (fun _ => ?_)
      · rw [px_upd_ne _ _ (by omega), px_upd_ne _ _ (by omega)]
      · show va_up (va_up F 1 _) 2 _ j = F j
        rw [px_up_ne _ _ (by omega), px_up_ne F _ (by omega)]
      · have hh := h.th hn
        by_cases cn : n = t
        · subst cn
          refine ⟨⟨⟨a / 10, by omega, px_upd_self _ _ _⟩, ⟨a % 10, by omega, ?_⟩, ?_, ?_⟩, ?_, ?_, ?_, ?_⟩
          · rw [px_upd_ne _ _ (by omega)]; exact px_upd_self _ _ _
          · rw [px_upd_ne _ _ (by omega), px_upd_ne _ _ (by omega)]; exact hh.1.2.2.1
          · rw [px_upd_ne _ _ (by omega), px_upd_ne _ _ (by omega)]; exact hh.1.2.2.2
          · rw [px_upd_self]; exact px_upd_self _ _ _
          · rw [px_upd_ne _ _ (by omega), px_upd_self]; exact px_upd_self _ _ _
          · rw [px_upd_ne _ _ (by omega), px_upd_ne _ _ (by omega)]; exact hh.2.2.2.1
          · rw [px_upd_ne _ _ (by omega), px_upd_ne _ _ (by omega)]; exact hh.2.2.2.2
        · have eo : ∀ x : Nat, x < 4 → upd (upd (G 0) (12 + 4 * t + 1) (nI (a % 10))) (12 + 4 * t + 0) (nI (a / 10)) (12 + 4 * n + x) = G 0 (12 + 4 * n + x) := fun x hx => by
            rw [px_upd_ne _ _ (by omega), px_upd_ne _ _ (by omega)]
          refine ⟨?_, ?_, ?_, ?_, ?_⟩
          · unfold g_th
            rw [eo 0 (by omega), eo 1 (by omega), eo 2 (by omega), eo 3 (by omega)]; exact hh.1
          · rw [eo 0 (by omega)]; exact (px_upd_ne _ _ cn).trans hh.2.1
          · rw [eo 1 (by omega)]; exact (px_upd_ne _ _ cn).trans hh.2.2.1
          · rw [eo 2 (by omega)]; exact hh.2.2.2.1
          · rw [eo 3 (by omega)]; exact hh.2.2.2.2
      · rw [px_upd_ne _ _ (by omega)]
        exact (h.th hl).2.1
end
/-! part 55.keep -/
section
/-! tell, check, image, restore -/
theorem px_cw.upd {N : Nat → Int32} (h : px_cw N) {q : Nat} (h0 : q ≠ 0) (h9 : q ≠ 9) (h18 : q ≠ 18) {x : Int32} (hx : 0 ≤ x ∧ x.toInt ≤ px_lim q) : px_cw (upd N q x) := by
  refine ⟨(px_upd_ne N x (by omega)).trans h.1, (px_upd_ne N x (by omega)).trans h.2.1, (px_upd_ne N x (by omega)).trans h.2.2.1, fun j hj => ?_⟩
  by_cases c : j = q
  · subst c; rw [px_upd_self]; exact hx
  · rw [px_upd_ne N x c]; exact h.2.2.2 j hj
theorem px_lim_n {n L : Nat} (hn : n ≤ L) (hL : L ≤ 60) : 0 ≤ nI n ∧ (nI n).toInt ≤ (L : Int) := ⟨nI_pos' (by omega), by rw [nI_toInt (by omega)]; omega⟩
theorem RR.W {Z N Zm : Nat → Int32} {F G : Nat → Nat → Int32} (h : RR Z N F Zm G) : ∃ W : Nat, W ≤ 24 ∧ G 0 9 = nI W ∧ N 8 = nI W := by
  obtain ⟨-, ⟨-, -, ⟨W, w1, w2⟩, -⟩, ⟨-, -, ⟨-, a4⟩, -⟩, -⟩ := h
  exact ⟨W, w1, w2, a4.trans w2⟩
theorem RR.P {Z N Zm : Nat → Int32} {F G : Nat → Nat → Int32} (h : RR Z N F Zm G) : ∃ P : Nat, P ≤ 60 ∧ G 0 8 = nI P ∧ N 5 = nI P := by
  obtain ⟨-, ⟨-, ⟨P, w1, w2⟩, -⟩, ⟨-, -, ⟨a3, -⟩, -⟩, -⟩ := h
  exact ⟨P, w1, w2, a3.trans w2⟩
/-- the reference's row in order again, its wall and THINGS unchanged -/
theorem g_row_hi {f g : Nat → Int32} (h : g_row_ok f) (he : ∀ j : Nat, j < 8 ∨ (10 ≤ j ∧ j < 286) → g j = f j) (hP : ∃ P : Nat, P ≤ 60 ∧ g 8 = nI P) (hW : ∃ W : Nat, W ≤ 24 ∧ g 9 = nI W) : g_row_ok g := by
  obtain ⟨w0, -, -, ⟨M, m1, m2, m3⟩, t0, t1⟩ := h
  have ht := r_txf_congr (g := g) (fun j h1 h2 => he j (by omega)) t0 t1
  refine ⟨g_wall_congr w0 (fun j hj => he j (by omega)), hP, hW, ⟨M, m1, (he 10 (by omega)).trans m2, fun n hn => ?_⟩, ht.1, ht.2⟩
  rw [he _ (by omega), he _ (by omega), he _ (by omega), he _ (by omega)]
  exact m3 n hn
theorem st_tell (v : Int32) : px_st 82 203 [.int v] True := by
  intro Z N F Zm G h
  obtain ⟨W, hW, eG, eN⟩ := h.W
  have hc := kc_tell (Z := Z) (F := F) h.1 v
  have hm := kc_mtell (Z := Zm) (F := G) eG hW v
  by_cases c : W = 24
  · subst c
    rw [show s_tell Z N F v = (-1000000000 - 4, Z, N, F) from if_neg (by rw [eN]; decide)] at hc
    rw [show s_mtell Zm G v = (-1000000000 - 4, Zm, G) from if_pos eG] at hm
    exact px_st_of (c := True) hc (by decide) hm (by decide) h (fun _ => rfl)
  · have e9' : ∀ x : Nat → Int32, x = G 0 → (x 9).toNatClampNeg = W := fun x hx => by rw [hx, eG, nI_clamp (by omega)]
    have c1 : (1 : Int32) ≤ 24 - N 8 := by
      rw [eN, show (24 : Int32) = nI 24 from rfl, zz_sub hW]
      exact (nI_leI (a := 1) (by omega) (by omega)).mpr (by omega)
    have c2 : ¬ (G 0 9 = 24) := fun q => c ((nI_eq (b := 24) (by omega) (by omega)).mp (eG.symm.trans q))
    have e9 : upd (G 0) (346 + (G 0 9).toNatClampNeg) v 9 = G 0 9 := px_upd_ne _ _ (by omega)
    rw [show s_tell Z N F v = (N 8 + 1, Z, upd N 8 (N 8 + 1), va_up F 8 (upd (F 8) (N 8).toNatClampNeg v)) from if_pos c1] at hc
    rw [show s_mtell Zm G v = (G 0 9 + 1, Zm, va_up G 0 (upd (upd (G 0) (346 + (G 0 9).toNatClampNeg) v) 9 (G 0 9 + 1))) from by
      rw [show s_mtell Zm G v = (upd (upd (G 0) (346 + (G 0 9).toNatClampNeg) v) 9 (upd (G 0) (346 + (G 0 9).toNatClampNeg) v 9 + 1) 9, Zm, va_up (va_up G 0 (upd (G 0) (346 + (G 0 9).toNatClampNeg) v)) 0 (upd (upd (G 0) (346 + (G 0 9).toNatClampNeg) v) 9 (upd (G 0) (346 + (G 0 9).toNatClampNeg) v 9 + 1))) from if_neg c2, px_up_up, e9, px_upd_self]] at hm
    rw [eN, eG, nI_clamp (by omega), show nI W + 1 = nI (W + 1) from (nI_succ W).symm] at *
    have heq : ∀ j : Nat, j ≠ 9 → j ≠ 346 + W → upd (upd (G 0) (346 + W) v) 9 (nI (W + 1)) j = G 0 j := fun j h1 h2 => by rw [px_upd_ne _ _ h1, px_upd_ne _ _ h2]
    refine px_st_of (c := True) hc (by decide) hm (by decide) ?_ (fun _ => rfl)
    refine RR.now h (fun _ _ => rfl) (fun j hj => px_upd_ne N _ (by omega)) (fun j hj => px_up_ne F _ (by omega)) (h.1.upd (by decide) (by decide) (by decide) (px_lim_n (L := 24) (by omega) (by omega))) ?_ ?_ (h.tt.cg ⟨rfl, rfl⟩ ⟨rfl, rfl⟩ (fun j hj => by obtain ⟨P, p1, p2, -⟩ := h.P; rw [p2, nI_clamp (by omega)] at hj; exact heq j (by omega) (by omega)))
    · obtain ⟨P, p1, p2, -⟩ := h.P
      exact g_row_hi h.2.1 (fun j hj => heq j (by omega) (by omega)) ⟨P, p1, (heq 8 (by omega) (by omega)).trans p2⟩ ⟨W + 1, by omega, rfl⟩
    · obtain ⟨a1, a2, ⟨a3, a4⟩, ⟨a5, a6, a7, a8⟩, a9, a10, a11⟩ := h.2.2.1
      refine ⟨fun i hi => (a1 i hi).trans (heq i (by omega) (by omega)).symm, a2.trans (heq 7 (by omega) (by omega)).symm, ⟨a3.trans (heq 8 (by omega) (by omega)).symm, rfl⟩, ?_, ?_, ?_, ?_⟩
      · rw [heq 10 (by omega) (by omega)]; exact ⟨a5, a6, a7, a8⟩
      · rw [heq 10 (by omega) (by omega)]
        intro n hn
        have h6 := h.M.2.1
        rw [heq _ (by omega) (by omega), heq _ (by omega) (by omega), heq _ (by omega) (by omega), heq _ (by omega) (by omega)]
        exact a9 n hn
      · rw [heq 8 (by omega) (by omega)]
        intro i hi
        obtain ⟨P, p1, p2, -⟩ := h.P
        have : i < P := by rw [p2, nI_clamp (by omega)] at hi; exact hi
        rw [heq _ (by omega) (by omega)]
        exact a10 i hi
      · intro i hi
        have hi2 : i < W + 1 := by
          have e : upd (upd (G 0) (346 + W) v) 9 (nI (W + 1)) 9 = nI (W + 1) := rfl
          rw [e, nI_clamp (by omega)] at hi
          exact hi
        show va_up F 8 (upd (F 8) W v) 8 i = _
        rw [px_up_self]
        by_cases ci : i = W
        · subst ci
          rw [px_upd_self]
          exact ((px_upd_ne (k := 9) (j := 346 + i) (upd (G 0) (346 + i) v) (nI (i + 1)) (by clear hi hi2; omega)).trans (px_upd_self _ _ _)).symm
        · rw [px_upd_ne _ _ ci]
          exact (a11 i (by rw [e9' _ rfl]; clear hi; omega)).trans (heq _ (by omega) (by omega)).symm
theorem st_check : px_st 83 204 [] True := by
  intro Z N F Zm G h
  obtain ⟨W, hW, eG, eN⟩ := h.W
  have hM := h.M
  have hc := kc_check (Z := Z) (F := F) h.1 hM.2.2.2 hM.2.1 eN hW
  have hm := kc_mcheck (Z := Zm) (F := G) hM.1 hM.2.1 eG hW
  have hm := hm.mono (d' := 3) (Nat.le_refl 3) (Q' := fun r h' => r = some (.int (s_ckr W (zz_run (s_mckp (G 0 10).toNatClampNeg (upd (G 0) 9 0)) W 0))) ∧ ∃ Z' F', px_sm Zm (va_up G 0 (upd (G 0) 9 0)) Z' F' ∧ h' = ([], px_MH Z' F')) (fun v h' q => ⟨q.1, Zm, _, px_sm.rf, q.2⟩)
  obtain ⟨a1, a2, ⟨a3, a4⟩, ⟨a5, a6, a7, a8⟩, a9, a10, a11⟩ := h.2.2.1
  have heq : ∀ j : Nat, j ≠ 9 → upd (G 0) 9 0 j = G 0 j := fun j h1 => px_upd_ne _ _ h1
  refine px_st_of (c := True) hc (by decide) hm (by decide) ?_ (fun _ => ?_)
  · show RR Z (upd N 8 0) F Zm (va_up G 0 (upd (G 0) 9 0))
    refine RR.now h (fun _ _ => rfl) (fun j hj => px_upd_ne N _ (by omega)) (fun _ _ => rfl) (h.1.upd (by decide) (by decide) (by decide) ⟨by decide, by decide⟩) ?_ ?_ (h.tt.cg ⟨rfl, rfl⟩ ⟨rfl, rfl⟩ (fun j hj => heq j (by omega)))
    · obtain ⟨P, p1, p2, -⟩ := h.P
      exact g_row_hi h.2.1 (fun j hj => heq j (by omega)) ⟨P, p1, (heq 8 (by omega)).trans p2⟩ ⟨0, by omega, rfl⟩
    · refine ⟨fun i hi => (a1 i hi).trans (heq i (by omega)).symm, a2.trans (heq 7 (by omega)).symm, ⟨a3.trans (heq 8 (by omega)).symm, rfl⟩, ?_, ?_, ?_, ?_⟩
      · rw [heq 10 (by omega)]; exact ⟨a5, a6, a7, a8⟩
      · rw [heq 10 (by omega)]
        intro n hn
        rw [heq _ (by omega), heq _ (by omega), heq _ (by omega), heq _ (by omega)]
        exact a9 n hn
      · rw [heq 8 (by omega)]
        intro i hi
        rw [heq _ (by omega)]
        exact a10 i hi
      · intro i hi
        exact absurd hi (Nat.not_lt_zero i)
  · show s_ckr W (zz_run (s_ckp (G 0 10).toNatClampNeg F) W 0) = _
    rw [zz_run_congr (q := s_mckp (G 0 10).toNatClampNeg (upd (G 0) 9 0)) W 0 (fun j h1 h2 => ?_)]
    unfold s_ckp s_mckp
    rw [heq _ (by omega), heq _ (by omega)]
    by_cases cj : j < (G 0 10).toNatClampNeg
    · have e1 := (a9 j cj).2.2.1
      have e2 := a11 j (by rw [eG, nI_clamp (by omega)]; omega)
      rw [show F 3 j = G 0 (12 + 4 * j + 2) from e1, show F 8 j = G 0 (346 + j) from e2]
      congr 1
      exact decide_eq_decide.mpr ⟨fun q => q.symm, fun q => q.symm⟩
    · rw [decide_eq_false cj]; rfl
theorem s_keepN_hi (N : Nat → Int32) {j : Nat} (hj : 18 ≤ j) : s_keepN N j = N j := by
  unfold s_keepN
  rw [px_upd_ne _ _ (by omega), px_upd_ne _ _ (by omega), px_upd_ne _ _ (by omega), px_upd_ne _ _ (by omega), px_upd_ne _ _ (by omega), px_upd_ne _ _ (by omega), px_upd_ne _ _ (by omega), px_upd_ne _ _ (by omega), px_upd_ne _ _ (by omega)]
theorem s_keepF_hi (N : Nat → Int32) (F : Nat → Nat → Int32) {j : Nat} (hj : 18 ≤ j) : s_keepF N F j = F j := by
  unfold s_keepF
  rw [px_up_ne _ _ (by omega), px_up_ne _ _ (by omega), px_up_ne _ _ (by omega), px_up_ne _ _ (by omega), px_up_ne _ _ (by omega), px_up_ne _ _ (by omega), px_up_ne _ _ (by omega), px_up_ne _ _ (by omega), px_up_ne _ _ (by omega)]
theorem s_takeN_hi (N : Nat → Int32) {j : Nat} (hj : 9 ≤ j) : s_takeN N j = N j := by
  unfold s_takeN
  rw [px_upd_ne _ _ (by omega), px_upd_ne _ _ (by omega), px_upd_ne _ _ (by omega), px_upd_ne _ _ (by omega), px_upd_ne _ _ (by omega), px_upd_ne _ _ (by omega), px_upd_ne _ _ (by omega), px_upd_ne _ _ (by omega), px_upd_ne _ _ (by omega)]
theorem s_takeF_hi (N : Nat → Int32) (F : Nat → Nat → Int32) {j : Nat} (hj : 9 ≤ j) : s_takeF N F j = F j := by
  unfold s_takeF
  rw [px_up_ne _ _ (by omega), px_up_ne _ _ (by omega), px_up_ne _ _ (by omega), px_up_ne _ _ (by omega), px_up_ne _ _ (by omega), px_up_ne _ _ (by omega), px_up_ne _ _ (by omega), px_up_ne _ _ (by omega), px_up_ne _ _ (by omega)]
theorem s_keepN_cw {N : Nat → Int32} (h : px_cw N) : px_cw (s_keepN N) := by
  refine ⟨h.1, h.1, h.2.2.1, fun q hq => ?_⟩
  rcases (show q = 0 ∨ q = 1 ∨ q = 2 ∨ q = 3 ∨ q = 4 ∨ q = 5 ∨ q = 6 ∨ q = 7 ∨ q = 8 ∨ q = 9 ∨ q = 10 ∨ q = 11 ∨ q = 12 ∨ q = 13 ∨ q = 14 ∨ q = 15 ∨ q = 16 ∨ q = 17 ∨ 18 ≤ q by omega) with rfl | rfl | rfl | rfl | rfl | rfl | rfl | rfl | rfl | rfl | rfl | rfl | rfl | rfl | rfl | rfl | rfl | rfl | hh
  · exact h.2.2.2 0 (by omega)
  · exact h.2.2.2 1 (by omega)
  · exact h.2.2.2 2 (by omega)
  · exact h.2.2.2 3 (by omega)
  · exact h.2.2.2 4 (by omega)
  · exact h.2.2.2 5 (by omega)
  · exact h.2.2.2 6 (by omega)
  · exact h.2.2.2 7 (by omega)
  · exact h.2.2.2 8 (by omega)
  · exact h.2.2.2 0 (by omega)
  · exact h.2.2.2 1 (by omega)
  · exact h.2.2.2 2 (by omega)
  · exact h.2.2.2 3 (by omega)
  · exact h.2.2.2 4 (by omega)
  · exact h.2.2.2 5 (by omega)
  · exact h.2.2.2 6 (by omega)
  · exact h.2.2.2 7 (by omega)
  · exact h.2.2.2 8 (by omega)
  · rw [s_keepN_hi N hh]; exact h.2.2.2 q hq
theorem s_takeN_cw {N : Nat → Int32} (h : px_cw N) : px_cw (s_takeN N) := by
  refine ⟨h.2.1, h.2.1, h.2.2.1, fun q hq => ?_⟩
  rcases (show q = 0 ∨ q = 1 ∨ q = 2 ∨ q = 3 ∨ q = 4 ∨ q = 5 ∨ q = 6 ∨ q = 7 ∨ q = 8 ∨ 9 ≤ q by omega) with rfl | rfl | rfl | rfl | rfl | rfl | rfl | rfl | rfl | hh
  · exact h.2.2.2 9 (by omega)
  · exact h.2.2.2 10 (by omega)
  · exact h.2.2.2 11 (by omega)
  · exact h.2.2.2 12 (by omega)
  · exact h.2.2.2 13 (by omega)
  · exact h.2.2.2 14 (by omega)
  · exact h.2.2.2 15 (by omega)
  · exact h.2.2.2 16 (by omega)
  · exact h.2.2.2 17 (by omega)
  · rw [s_takeN_hi N hh]; exact h.2.2.2 q hq
theorem g_row_congr {f g : Nat → Int32} (h : g_row_ok f) (he : ∀ j : Nat, j < 370 → g j = f j) : g_row_ok g := by
  obtain ⟨w0, ⟨P, p1, p2⟩, ⟨W, w1, w2⟩, ⟨M, m1, m2, m3⟩, t0, t1⟩ := h
  have ht := r_txf_congr (g := g) (fun j h1 h2 => he j (by omega)) t0 t1
  refine ⟨g_wall_congr w0 (fun j hj => he j (by omega)), ⟨P, p1, (he 8 (by omega)).trans p2⟩, ⟨W, w1, (he 9 (by omega)).trans w2⟩, ⟨M, m1, (he 10 (by omega)).trans m2, fun n hn => ?_⟩, ht.1, ht.2⟩
  rw [he _ (by omega), he _ (by omega), he _ (by omega), he _ (by omega)]
  exact m3 n hn
/-- rows copied from one place to the other, on both sides -/
theorem g_rel_copy {q q2 : Nat} {z : Int32} {N N' : Nat → Int32} {F F' : Nat → Nat → Int32} {f g : Nat → Int32} (h : g_rel q z N F f) (hf : g_row_ok f) (he : ∀ j : Nat, j < 370 → g j = f j) (hN0 : N q = 7) (hN : ∀ i : Nat, i ≤ 8 → N' (q2 + i) = N (q + i)) (hF : ∀ i : Nat, i ≤ 8 → ∀ j : Nat, j < (N (q + i)).toNatClampNeg → F' (q2 + i) j = F (q + i) j) : g_rel q2 z N' F' g := by
  obtain ⟨-, ⟨P, p1, p2⟩, ⟨W, w1, w2⟩, ⟨M, m1, m2, m3⟩, t0, t1⟩ := hf
  obtain ⟨a1, a2, ⟨a3, a4⟩, ⟨a5, a6, a7, a8⟩, a9, a10, a11⟩ := h
  have eM : (f 10).toNatClampNeg = M := by rw [m2, nI_clamp (by omega)]
  have eP : (f 8).toNatClampNeg = P := by rw [p2, nI_clamp (by omega)]
  have eW : (f 9).toNatClampNeg = W := by rw [w2, nI_clamp (by omega)]
  refine ⟨fun i hi => ?_, a2.trans (he 7 (by omega)).symm, ⟨?_, ?_⟩, ⟨?_, ?_, ?_, ?_⟩, ?_, ?_, ?_⟩
  · have e := hF 0 (by omega) i (by rw [Nat.add_zero, hN0]; exact hi)
    rw [Nat.add_zero, Nat.add_zero] at e
    rw [e, he i (by omega)]; exact a1 i hi
  · rw [hN 5 (by omega), a3, he 8 (by omega)]
  · rw [hN 8 (by omega), a4, he 9 (by omega)]
  · rw [hN 1 (by omega), a5, he 10 (by omega)]
  · rw [hN 2 (by omega), a6, he 10 (by omega)]
  · rw [hN 3 (by omega), a7, he 10 (by omega)]
  · rw [hN 4 (by omega), a8, he 10 (by omega)]
  · rw [he 10 (by omega), eM]
    rw [eM] at a9
    intro n hn
    rw [he _ (by omega), he _ (by omega), he _ (by omega), he _ (by omega), hF 1 (by omega) n (by rw [a5, eM]; exact hn), hF 2 (by omega) n (by rw [a6, eM]; exact hn), hF 3 (by omega) n (by rw [a7, eM]; exact hn), hF 4 (by omega) n (by rw [a8, eM]; exact hn)]
    exact a9 n hn
  · rw [he 8 (by omega), eP]
    rw [eP] at a10
    intro i hi
    rw [he _ (by omega), hF 5 (by omega) i (by rw [a3, eP]; exact hi)]
    exact a10 i hi
  · rw [he 9 (by omega), eW]
    rw [eW] at a11
    intro i hi
    rw [he _ (by omega), hF 8 (by omega) i (by rw [a4, eW]; exact hi)]
    exact a11 i hi
theorem px_ov_lt {f g : Nat → Int32} {n j : Nat} (h : j < n) : px_ov f g n j = f j := if_pos h
theorem zz_pl_in {f g : Nat → Int32} {j : Nat} (h : j < 370) : zz_pl f g 0 370 j = f j := by
  unfold zz_pl
  rw [if_pos (by omega), Nat.sub_zero]
theorem st_image : px_st 80 201 [] True := by
  intro Z N F Zm G h
  have hc := kc_image (Z := Z) (F := F) h.1
  have hm := kc_mimage (Z := Zm) (F := G)
  refine px_st_of (c := True) hc (by decide) hm (by decide) ?_ (fun _ => congrArg (fun z : Int32 => z + 1) h.2.2.2.1)
  show RR (upd (upd Z 1 (Z 0)) 21 (Z 21 + 1)) (s_keepN N) (s_keepF N F) (upd Zm 0 (Zm 0 + 1)) (va_up G 1 (zz_pl (G 0) (G 1) 0 370))
  obtain ⟨b0, b1, b2, b3, b4, b5, b6, b7, b8⟩ := h
  refine ⟨s_keepN_cw b0, b1, b2, congrArg (fun z : Int32 => z + 1) b3, fun _ => ⟨g_row_congr b1 (fun j hj => zz_pl_in hj), ?_⟩, ?_, b6, b7, b8.1, b8.2.1.cg ⟨rfl, rfl⟩ ⟨rfl, rfl⟩ (fun _ _ => rfl), fun _ => b8.2.1.copy (by obtain ⟨P, p1, p2⟩ := b1.2.1; rw [p2, nI_clamp (by omega)]; exact p1) (fun j hj => zz_pl_in hj) rfl rfl (fun j hj => px_ov_lt hj) (fun j hj => px_ov_lt hj)⟩
  · refine g_rel_copy b2 b1 (fun j hj => zz_pl_in hj) b0.1 (fun i hi => ?_) (fun i hi j hj => ?_)
    · rcases (show i = 0 ∨ i = 1 ∨ i = 2 ∨ i = 3 ∨ i = 4 ∨ i = 5 ∨ i = 6 ∨ i = 7 ∨ i = 8 by omega) with rfl | rfl | rfl | rfl | rfl | rfl | rfl | rfl | rfl <;> rfl
    · rcases (show i = 0 ∨ i = 1 ∨ i = 2 ∨ i = 3 ∨ i = 4 ∨ i = 5 ∨ i = 6 ∨ i = 7 ∨ i = 8 by omega) with rfl | rfl | rfl | rfl | rfl | rfl | rfl | rfl | rfl <;> exact px_ov_lt hj
  · refine g_sh_far b5 (fun j h1 h2 => ?_) (fun j h1 h2 => s_keepN_hi N (by omega)) (fun j h1 h2 => s_keepF_hi N F (by omega)) ⟨rfl, rfl, rfl⟩
    rw [px_upd_ne _ _ (by omega), px_upd_ne _ _ (by omega)]
theorem st_restore : px_st 81 202 [] True := by
  intro Z N F Zm G h
  have hc := kc_restore (Z := Z) (F := F) h.1
  have hm := kc_mrestore (Z := Zm) (F := G)
  have e0 := h.2.2.2.1
  by_cases c : Z 21 = 0
  · rw [show s_restore Z N F = (-1000000000 - 2, Z, N, F) from if_pos c] at hc
    rw [show s_mrestore Zm G = (-1000000000 - 2, Zm, G) from if_pos (by rw [← e0]; exact c)] at hm
    exact px_st_of (c := True) hc (by decide) hm (by decide) h (fun _ => rfl)
  · rw [show s_restore Z N F = (s_takeF N F 0 6, upd Z 0 (Z 1), s_takeN N, s_takeF N F) from if_neg c] at hc
    rw [show s_mrestore Zm G = (zz_pl (G 1) (G 0) 0 370 6, Zm, va_up G 0 (zz_pl (G 1) (G 0) 0 370)) from if_neg (by rw [← e0]; exact c)] at hm
    obtain ⟨k1, k2⟩ := h.2.2.2.2.1 c
    have hr : g_rel 0 (Z 1) (s_takeN N) (s_takeF N F) (zz_pl (G 1) (G 0) 0 370) := by
      refine g_rel_copy k2 k1 (fun j hj => zz_pl_in hj) h.1.2.1 (fun i hi => ?_) (fun i hi j hj => ?_)
      · rcases (show i = 0 ∨ i = 1 ∨ i = 2 ∨ i = 3 ∨ i = 4 ∨ i = 5 ∨ i = 6 ∨ i = 7 ∨ i = 8 by omega) with rfl | rfl | rfl | rfl | rfl | rfl | rfl | rfl | rfl <;> rfl
      · rcases (show i = 0 ∨ i = 1 ∨ i = 2 ∨ i = 3 ∨ i = 4 ∨ i = 5 ∨ i = 6 ∨ i = 7 ∨ i = 8 by omega) with rfl | rfl | rfl | rfl | rfl | rfl | rfl | rfl | rfl <;> exact px_ov_lt hj
    refine px_st_of (c := True) hc (by decide) hm (by decide) ?_ (fun _ => hr.1 6 (by omega))
    show RR (upd Z 0 (Z 1)) (s_takeN N) (s_takeF N F) Zm (va_up G 0 (zz_pl (G 1) (G 0) 0 370))
    exact RR.now h (fun j hj => px_upd_ne Z _ hj) (fun j hj => s_takeN_hi N hj) (fun j hj => s_takeF_hi N F hj) (s_takeN_cw h.1) (g_row_congr k1 (fun j hj => zz_pl_in hj)) hr ((h.tk c).copy (by obtain ⟨P, p1, p2⟩ := k1.2.1; rw [p2, nI_clamp (by omega)]; exact p1) (fun j hj => zz_pl_in hj) rfl rfl (fun j hj => px_ov_lt hj) (fun j hj => px_ov_lt hj))
end
/-! part 56.look -/
section
theorem zz_rowq {x t : Int32} {M : Nat} (hM : x = nI M) (hM6 : M ≤ 60) : ¬ (t < 0 ∨ x ≤ t) ↔ 0 ≤ t ∧ t ≤ x - 1 := by
  have e : (x - 1).toInt = (M : Int) - 1 := zz_sub1 (b := 1) hM (by decide) (by omega)
  have e2 : x.toInt = M := by rw [hM, nI_toInt (by omega)]
  rw [not_or, Int32.not_lt, Int32.not_le, Int32.lt_iff_toInt_lt, Int32.le_iff_toInt_le, Int32.le_iff_toInt_le, e, e2]
  omega
theorem zz_rown {x t : Int32} {M : Nat} (hM : x = nI M) (hM6 : M ≤ 60) (c : ¬ (t < 0 ∨ x ≤ t)) : ∃ r : Nat, r < M ∧ t = nI r := by
  rw [not_or] at c
  obtain ⟨n, hn, rfl⟩ := nI_of c.1
  refine ⟨n, ?_, rfl⟩
  rw [hM] at c
  exact Nat.lt_of_not_le (fun q => c.2 ((nI_leI (a := M) (b := n) (by omega) (by omega)).mpr q))
theorem RR.S {Z N Zm : Nat → Int32} {F G : Nat → Nat → Int32} (h : RR Z N F Zm G) : ∃ S : Nat, 1 ≤ S ∧ S ≤ fT (G 0) ∧ G 0 6 = nI S ∧ F 0 6 = nI S ∧ upd (G 0) 6 (nI S) = G 0 := by
  have hg := h.wall
  obtain ⟨L, T, J, R, B, S, h0, h1', h2', h4, h5, h6, a1, a2, a3, a4, a5, a6, a7, a8, a9, a10, k1, k2⟩ := hg
  have hTT : fT (G 0) = T := by unfold fT; rw [h1', nI_clamp (by omega)]
  have e6 : F 0 6 = nI S := (h.F0 (by decide)).trans h6
  refine ⟨S, a9, by omega, h6, e6, ?_⟩
  funext j
  by_cases c : j = 6
  · subst c; rw [px_upd_self, h6]
  · rw [px_upd_ne _ _ c]
theorem RR.lay {Z N Zm : Nat → Int32} {F G : Nat → Nat → Int32} (h : RR Z N F Zm G) (Z2 : Nat → Int32) {r : Nat} (hr : r < 8) : rw_ok (c_lay Z2 F (nI r) (F 0 6)) (fe (G 0) r) (fw (G 0) r) (fT (G 0)) (fJ (G 0)) := by
  obtain ⟨S, s1, s2, -, e6, eU⟩ := h.S
  have k := c_lay_ok (fun i hi => h.F0 hi) h.wall Z2 hr s1 s2
  rw [eU] at k
  rw [e6]
  exact k
theorem RR.first {Z N Zm : Nat → Int32} {F G : Nat → Nat → Int32} (h : RR Z N F Zm G) {r : Nat} (hr : r < 8) : c_first F (nI r) (F 0 6) = s_mfst (G 0) (nI r) := by
  obtain ⟨S, s1, s2, -, e6, eU⟩ := h.S
  have k := c_first_m (fun i hi => h.F0 hi) h.wall hr s1 s2
  rw [eU] at k
  rw [e6]
  exact k
theorem st_piece (row i : Int32) : px_st 61 168 [.int row, .int i] True := by
  intro Z N F Zm G h
  refine px_st_of (kc_piece h.1 row i) (by decide) (kc_mpiece (g_ok h.wall) row i) (by decide) h (fun _ => ?_)
  unfold s_piece s_mpiece
  rw [h.F0 (i := 4) (by decide)]
  obtain ⟨hR, hR1, hR8⟩ := (g_TJR h.wall).2.2
  have hq := zz_rowq (t := row) hR (by omega)
  by_cases c : row < 0 ∨ G 0 4 ≤ row
  · rw [if_pos c, if_neg (fun q => hq.mpr q c)]
  · rw [if_neg c, if_pos (hq.mp c)]
    obtain ⟨r, hr, rfl⟩ := zz_rown hR (by omega) c
    have k := h.lay Z (r := r) (by omega)
    rw [nI_clamp (by omega), k.1.2.2.2.2]
    by_cases c1 : -1 ≤ i
    · rw [if_pos c1, if_pos c1]
      by_cases c2 : i = -1
      · rw [if_pos c2, if_pos c2]; rfl
      · rw [if_neg c2, if_neg c2]
        by_cases c3 : nI (fP (G 0) r) ≤ i
        · rw [if_pos c3]; exact if_pos c3
        · rw [if_neg c3]
          refine (if_neg c3).trans ?_
          have hi0 : ¬ (i < 0) := by
            have d1 : (-1 : Int32).toInt = -1 := by decide
            rw [Int32.le_iff_toInt_le, d1] at c1
            have d2 : ¬ (i.toInt = -1) := fun q => c2 (Int32.toInt_inj.mp (q.trans d1.symm))
            rw [Int32.lt_iff_toInt_lt, show (0 : Int32).toInt = 0 from rfl]
            omega
          obtain ⟨n, hn, rfl⟩ := nI_of hi0
          have hp := (g_row h.wall (show r < 8 by omega))
          have hP : fP (G 0) r < 100000 := by
            have := ((g_ok h.wall).2.2.2.2.2.2 r (by omega)).2.2.2.2.1
            omega
          have hl : n < fP (G 0) r := Nat.lt_of_not_le (fun q => c3 ((nI_leI (by omega) (by omega)).mpr q))
          rw [nI_clamp (by omega)]
          exact w_wid_n k hl
    · rw [if_neg c1, if_neg c1]
theorem st_rowIs (row what : Int32) : px_st 62 169 [.int row, .int what] True := by
  intro Z N F Zm G h
  refine px_st_of (kc_rowIs h.1 row what) (by decide) (kc_mrowIs (g_ok h.wall) row what) (by decide) h (fun _ => ?_)
  unfold s_rowIs s_mrowIs
  rw [h.F0 (i := 4) (by decide)]
  obtain ⟨hR, hR1, hR8⟩ := (g_TJR h.wall).2.2
  have hT := (g_TJR h.wall).1.1
  have hq := zz_rowq (t := row) hR (by omega)
  by_cases c : row < 0 ∨ G 0 4 ≤ row
  · rw [if_pos c, if_neg (fun q => hq.mpr q c)]
  · rw [if_neg c, if_pos (hq.mp c)]
    obtain ⟨r, hr, rfl⟩ := zz_rown hR (by omega) c
    have k := h.lay Z (r := r) (by omega)
    rw [nI_clamp (by omega), w_cuts_n k, w_nar_n k, h.first (by omega), c_len_m (fun i hi => h.F0 hi), hT]
    by_cases c1 : 0 ≤ what ∧ what ≤ 3
    · rw [if_pos c1]
      obtain ⟨ew, hw⟩ := px_in5 (n := 3) (by decide) c1
      generalize what.toNatClampNeg = v at ew hw
      subst ew
      rcases (show v = 0 ∨ v = 1 ∨ v = 2 ∨ v = 3 by omega) with rfl | rfl | rfl | rfl
      · rw [if_pos (show nI 0 = 0 from rfl), if_pos (show nI 0 = 0 from rfl)]
      · rw [if_neg (show ¬ (nI 1 = 0) by decide), if_pos (show nI 1 = 1 from rfl), if_neg (show ¬ (nI 1 = 0) by decide), if_pos (show nI 1 = 1 from rfl)]
        rfl
      · rw [if_neg (show ¬ (nI 2 = 0) by decide), if_neg (show ¬ (nI 2 = 1) by decide), if_pos (show nI 2 = 2 from rfl), if_neg (show ¬ (nI 2 = 0) by decide), if_neg (show ¬ (nI 2 = 1) by decide), if_pos (show nI 2 = 2 from rfl)]
        rfl
      · rw [if_neg (show ¬ (nI 3 = 0) by decide), if_neg (show ¬ (nI 3 = 1) by decide), if_neg (show ¬ (nI 3 = 2) by decide), if_pos (show nI 3 = 3 from rfl), if_neg (show ¬ (nI 3 = 0) by decide), if_neg (show ¬ (nI 3 = 1) by decide), if_neg (show ¬ (nI 3 = 2) by decide)]
    · rw [if_neg c1]
      have n0 : what ≠ 0 := fun q => c1 (by subst q; decide)
      have n1 : what ≠ 1 := fun q => c1 (by subst q; decide)
      have n2 : what ≠ 2 := fun q => c1 (by subst q; decide)
      have n3 : what ≠ 3 := fun q => c1 (by subst q; decide)
      rw [if_neg n0, if_neg n1, if_neg n2, if_neg n3]
end
/-! part 57.safe -/
section
theorem zz_sheet (s : Int32) : (s < 0 ∨ 4 ≤ s) ∨ ∃ k : Nat, k < 4 ∧ s = nI k := by
  by_cases c : s < 0 ∨ 4 ≤ s
  · exact Or.inl c
  · exact Or.inr (zz_rown (x := 4) (M := 4) rfl (by decide) c)
theorem RR.SN {Z N Zm : Nat → Int32} {F G : Nat → Nat → Int32} (h : RR Z N F Zm G) {k : Nat} (hk : k < 4) : ∃ S : Nat, N (19 + k) = nI S ∧ S ≤ 24 := by
  have h1 := h.1.nn (show 19 + k < 27 by omega)
  have h2 := h.1.lim (show 19 + k < 27 by omega)
  have e : px_lim (19 + k) = 24 := by
    rcases (show k = 0 ∨ k = 1 ∨ k = 2 ∨ k = 3 by omega) with rfl | rfl | rfl | rfl <;> rfl
  rw [e] at h2
  obtain ⟨n, hn, e2⟩ := nI_of (Int32.not_lt.mpr h1)
  refine ⟨n, e2, ?_⟩
  rw [e2, nI_toInt (by omega)] at h2
  omega
theorem RR.SG {Z N Zm : Nat → Int32} {F G : Nat → Nat → Int32} (h : RR Z N F Zm G) {k : Nat} (hk : k < 4) : ∃ S : Nat, G 12 k = nI S ∧ S ≤ 24 := by
  obtain ⟨S, h1, h2⟩ := (h.2.2.2.2.2.1 k hk).2.2.1
  exact ⟨S, h2, h1⟩
theorem RR.kdN {Z N Zm : Nat → Int32} {F G : Nat → Nat → Int32} (h : RR Z N F Zm G) : ∀ n : Nat, n < (G 0 10).toNatClampNeg → ∃ kd : Nat, kd < 7 ∧ G 0 (12 + 4 * n + 0) = nI kd := by
  obtain ⟨-, ⟨-, -, -, ⟨M, hM, e, hk⟩, -⟩, -⟩ := h
  intro n hn
  rw [e, nI_clamp (by omega)] at hn
  exact (hk n hn).1
theorem RR.kdC {Z N Zm : Nat → Int32} {F G : Nat → Nat → Int32} (h : RR Z N F Zm G) (t : Int32) (c : ¬ (t < 0 ∨ N 1 ≤ t)) : ∃ kd : Nat, kd < 7 ∧ F 1 t.toNatClampNeg = nI kd := by
  have hM := h.M
  obtain ⟨n, hn, rfl⟩ := zz_rown hM.2.2.1 (by omega) c
  rw [nI_clamp (by omega)]
  obtain ⟨kd, k1, k2⟩ := h.kdN n hn
  exact ⟨kd, k1, ((h.2.2.1.2.2.2.2.1 n hn).1).trans k2⟩
theorem RR.tx0 {Z N Zm : Nat → Int32} {F G : Nat → Nat → Int32} (h : RR Z N F Zm G) : r_txf0 (G 0) := h.2.1.2.2.2.2.1
theorem RR.tx1 {Z N Zm : Nat → Int32} {F G : Nat → Nat → Int32} (h : RR Z N F Zm G) : r_txf1 (G 0) := h.2.1.2.2.2.2.2
theorem st_body (i : Int32) : px_st 74 193 [.int i] False := by
  intro Z N F Zm G h
  exact px_st_of (kc_body h.1 i) (by decide) (kc_mbody h.2.2.2.2.2.2.2.2.1 i) (by decide) h (fun q => q.elim)
theorem st_told (k : Int32) : px_st 85 206 [.int k] False := by
  intro Z N F Zm G h
  exact px_st_of (kc_told h.1 k) (by decide) (kc_mtold k) (by decide) h (fun q => q.elim)
theorem st_law (use a b c : Int32) : px_st 60 167 [.int use, .int a, .int b, .int c] False := by
  intro Z N F Zm G h
  have t0 : r_tx0 G := h.tx0
  have t1 : r_tx1 G := h.tx1
  by_cases c0 : use = 0
  · subst c0
    exact px_st_of (kc_law0 h.1 a b c) (by decide) (kc_mlaw t0 t1 0 a b c) (by decide) h (fun q => q.elim)
  by_cases c1 : use = 1
  · subst c1
    exact px_st_of (kc_law1 h.1 a b c) (by decide) (kc_mlaw t0 t1 1 a b c) (by decide) h (fun q => q.elim)
  · exact px_st_of (kc_lawB h.1 use a b c (fun q => q.elim c0 c1)) (by decide) (kc_mlaw t0 t1 use a b c) (by decide) h (fun q => q.elim)
theorem st_seen (thing row what : Int32) : px_st 63 170 [.int thing, .int row, .int what] False := by
  intro Z N F Zm G h
  exact px_st_of (kc_seen h.1 h.hT thing row what) (by decide) (kc_mseen (g_ok h.wall) h.M.1 h.M.2.1 h.tx1 thing row what) (by decide) h (fun q => q.elim)
theorem st_buy (what : Int32) : px_st 64 172 [.int what] False := by
  intro Z N F Zm G h
  obtain ⟨hT, hJ, hR, hR1, hR8⟩ := g_TJR h.wall
  exact px_st_of (kc_buy h.1 h.hT h.M.2.2.1 h.M.2.1 ((h.F0 (by decide)).trans hR) hR8 what) (by decide) (kc_mbuy (g_ok h.wall) h.M.1 h.M.2.1 h.tx1 h.tx0 what) (by decide) h (fun q => q.elim)
theorem st_calm (what : Int32) : px_st 68 177 [.int what] False := by
  intro Z N F Zm G h
  obtain ⟨⟨hT, hT1, hT2⟩, hJ, hR, hR1, hR8⟩ := g_TJR h.wall
  exact px_st_of (kc_calm h.1 h.hT h.M.2.2.1 h.M.2.1 ((h.F0 (by decide)).trans hR) hR8 ((h.F0 (by decide)).trans hT) hT2 (by omega) what) (by decide) (kc_mcalm hT hT2 (g_okS h.wall) h.M.1 h.M.2.1 h.tx1 what) (by decide) h (fun q => q.elim)
theorem st_best (what : Int32) : px_st 67 176 [.int what] False := by
  intro Z N F Zm G h
  obtain ⟨⟨hT, hT1, hT2⟩, hJ, hR, hR1, hR8⟩ := g_TJR h.wall
  exact px_st_of (kc_best h.1 ((h.F0 (by decide)).trans hR) hR8 ((h.F0 (by decide)).trans hT) hT2 (by omega) what) (by decide) (kc_mbest hT hT2 (g_okS h.wall) what) (by decide) h (fun q => q.elim)
theorem st_odds (v part : Int32) : px_st 71 181 [.int v, .int part] False := by
  intro Z N F Zm G h
  obtain ⟨⟨hT, hT1, hT2⟩, hJ, hR, hR1, hR8⟩ := g_TJR h.wall
  exact px_st_of (kc_odds h.1 ((h.F0 (by decide)).trans hR) hR8 ((h.F0 (by decide)).trans hT) hT2 v part) (by decide) (kc_modds hT hT2 (g_okS h.wall) (by omega) v part) (by decide) h (fun q => q.elim)
theorem st_fits (sheet what : Int32) : px_st 72 183 [.int sheet, .int what] False := by
  intro Z N F Zm G h
  obtain ⟨⟨hT, hT1, hT2⟩, hJ, hR, hR1, hR8⟩ := g_TJR h.wall
  rcases zz_sheet sheet with c | ⟨k, hk, rfl⟩
  · exact px_st_of (kc_fitsB h.1 sheet what c) (by decide) (kc_mfitsB sheet what c) (by decide) h (fun q => q.elim)
  · obtain ⟨S, s1, s2⟩ := h.SN hk
    obtain ⟨S2, t1, t2⟩ := h.SG hk
    refine px_st_of (kc_fits h.1 k (P := fun s => fP (upd (G 0) 6 (nI s)) 0) hk s1 s2 (fun s u1 u2 => ?_) ((h.F0 (by decide)).trans hT) hT2 what) (by decide) (kc_mfits hT hT2 (g_okS h.wall) hk t1 t2 hR1 what) (by decide) h (fun q => q.elim)
    have k1 := c_lay_ok (fun i hi => h.F0 hi) h.wall (fun _ => 0) (r := 0) (by decide) u1 u2
    have k2 := ((g_okS h.wall s u1 u2).2.2.2.2.2.2 0 (by omega)).2.2.2.2.1
    exact ⟨k1.1.2.2.2.2, by omega⟩
theorem st_judge (sheet : Int32) : px_st 79 200 [.int sheet] False := by
  intro Z N F Zm G h
  obtain ⟨⟨hT, hT1, hT2⟩, hJ, hR, hR1, hR8⟩ := g_TJR h.wall
  rcases zz_sheet sheet with c | ⟨k, hk, rfl⟩
  · exact px_st_of (kc_judgeB h.1 sheet c) (by decide) (kc_mjudgeB sheet c) (by decide) h (fun q => q.elim)
  · obtain ⟨S, s1, s2⟩ := h.SN hk
    obtain ⟨S2, t1, t2⟩ := h.SG hk
    have k2 := ((g_ok h.wall).2.2.2.2.2.2 0 (by omega)).2.2.2.2.1
    exact px_st_of (kc_judge h.1 k (P := fP (G 0) 0) hk s1 s2 (h.lay (fun _ => 0) (r := 0) (by decide)).1.2.2.2.2 (by omega)) (by decide) (kc_mjudge hk t1 t2 (g_ok h.wall) hR1) (by decide) h (fun q => q.elim)
theorem st_voice (thing voice x : Int32) : px_st 73 192 [.int thing, .int voice, .int x] False := by
  intro Z N F Zm G h
  exact px_st_of (kc_voice h.1 h.hT h.kdC thing voice x) (by decide) (kc_mvoice h.M.1 h.M.2.1 h.kdN thing voice x) (by decide) h (fun q => q.elim)
theorem st_cheat (what : Int32) : px_st 69 178 [.int what] False := by
  intro Z N F Zm G h
  obtain ⟨⟨hT, hT1, hT2⟩, hJ, hR, hR1, hR8⟩ := g_TJR h.wall
  have hL : ∃ L : Nat, L ≤ 4000 ∧ G 0 0 = nI L := by
    obtain ⟨L, T, J, R, B, S, h0, h1', h2', h4, h5, h6, a1, a2, a3, a4, a5, a6, a7, a8, a9, a10, k1, k2⟩ := h.wall
    exact ⟨L, by omega, h0⟩
  obtain ⟨L, l1, l2⟩ := hL
  exact px_st_of (kc_cheat h.1 what) (by decide) (kc_mcheat hT l2 (by omega) hT2 l1 what) (by decide) h (fun q => q.elim)
theorem st_middle (what : Int32) : px_st 70 179 [.int what] False := by
  intro Z N F Zm G h
  obtain ⟨⟨hT, hT1, hT2⟩, ⟨hJ, hJ9⟩, hR, hR1, hR8⟩ := g_TJR h.wall
  refine px_st_of (kc_middle h.1 what) (by decide) (kc_mmiddle (fun q => ?_) what) (by decide) h (fun q => q.elim)
  rw [hT, hJ] at q
  have e := zz_add (a := fT (G 0)) (b := fJ (G 0)) (nI_toInt (by omega)) (nI_toInt (by omega)) (by omega) (by omega)
  rw [q, show (0 : Int32).toInt = 0 from rfl] at e
  omega
theorem st_as (thing kind : Int32) : px_st 55 165 [.int thing, .int kind] True := by
  intro Z N F Zm G h
  have hM := h.M
  refine px_st_of (kc_as h.1 h.hT thing kind) (by decide) (kc_mas hM.1 hM.2.1 h.kdN thing kind) (by decide) h (fun _ => ?_)
  unfold s_as s_mas
  have e1 : N 1 = G 0 10 := h.2.2.1.2.2.2.1.1
  have hq := zz_rowq (t := thing) hM.1 (by omega)
  rw [e1]
  by_cases c : thing < 0 ∨ G 0 10 ≤ thing
  · rw [if_pos c, if_neg (fun q => hq.mpr q c)]
  · rw [if_neg c, if_pos (hq.mp c)]
    obtain ⟨n, hn, rfl⟩ := zz_rown hM.1 (by omega) c
    rw [nI_clamp (by omega)]
    have hr := h.2.2.1.2.2.2.2.1 n hn
    obtain ⟨kd, k1, k2⟩ := h.kdN n hn
    have f1 : F 1 n = nI kd := hr.1.trans k2
    rw [f1, k2]
    by_cases c1 : 0 ≤ kind ∧ kind ≤ 6
    · rw [if_pos c1, if_neg (Int32.not_lt.mpr c1.1), if_pos c1.2]
      obtain ⟨ek, hk⟩ := px_in5 (n := 6) (by decide) c1
      generalize kind.toNatClampNeg = v at ek hk
      subst ek
      have key : ∀ a : Fin 7, ∀ b : Fin 7, (s_mup (nI a) 2 (nI b) = nI a ↔ nI a = 0 ∨ nI a = nI b ∨ nI a = s_above (nI b)) := by decide +kernel
      have kk := key ⟨v, by omega⟩ ⟨kd, k1⟩
      by_cases c2 : nI v = 0 ∨ nI v = nI kd ∨ nI v = s_above (nI kd)
      · rw [if_pos c2, if_pos (kk.mpr c2)]; exact hr.2.1
      · rw [if_neg c2, if_neg (fun q => c2 (kk.mp q))]
    · rw [if_neg c1]
      by_cases c2 : kind < 0
      · rw [if_pos c2]
      · rw [if_neg c2, if_neg (fun q => c1 ⟨Int32.not_lt.mp c2, q⟩)]
end
/-! part 58.add -/
section
def zz_th (f : Nat → Int32) (M : Nat) (a b c d : Int32) : Nat → Int32 := upd (upd (upd (upd (upd f (12 + 4 * M + 0) a) (12 + 4 * M + 1) b) (12 + 4 * M + 2) c) (12 + 4 * M + 3) d) 10 (upd (upd (upd (upd f (12 + 4 * M + 0) a) (12 + 4 * M + 1) b) (12 + 4 * M + 2) c) (12 + 4 * M + 3) d 10 + 1)
theorem zz_th_10 (f : Nat → Int32) (M : Nat) (a b c d : Int32) : zz_th f M a b c d 10 = f 10 + 1 := by
  unfold zz_th
  rw [px_upd_self, px_upd_ne _ _ (by omega), px_upd_ne _ _ (by omega), px_upd_ne _ _ (by omega), px_upd_ne _ _ (by omega)]
theorem zz_th_ne (f : Nat → Int32) (M : Nat) (a b c d : Int32) {j : Nat} (h1 : j ≠ 10) (h2 : j < 12 + 4 * M ∨ 12 + 4 * M + 3 < j) : zz_th f M a b c d j = f j := by
  unfold zz_th
  rw [px_upd_ne _ _ h1, px_upd_ne _ _ (by omega), px_upd_ne _ _ (by omega), px_upd_ne _ _ (by omega), px_upd_ne _ _ (by omega)]
theorem zz_th_0 (f : Nat → Int32) (M : Nat) (a b c d : Int32) : zz_th f M a b c d (12 + 4 * M + 0) = a := by
  unfold zz_th
  rw [px_upd_ne _ _ (by omega), px_upd_ne _ _ (by omega), px_upd_ne _ _ (by omega), px_upd_ne _ _ (by omega), px_upd_self]
theorem zz_th_1 (f : Nat → Int32) (M : Nat) (a b c d : Int32) : zz_th f M a b c d (12 + 4 * M + 1) = b := by
  unfold zz_th
  rw [px_upd_ne _ _ (by omega), px_upd_ne _ _ (by omega), px_upd_ne _ _ (by omega), px_upd_self]
theorem zz_th_2 (f : Nat → Int32) (M : Nat) (a b c d : Int32) : zz_th f M a b c d (12 + 4 * M + 2) = c := by
  unfold zz_th
  rw [px_upd_ne _ _ (by omega), px_upd_ne _ _ (by omega), px_upd_self]
theorem zz_th_3 (f : Nat → Int32) (M : Nat) (a b c d : Int32) : zz_th f M a b c d (12 + 4 * M + 3) = d := by
  unfold zz_th
  rw [px_upd_ne _ _ (by omega), px_upd_self]
/-- one THING more, in both -/
theorem RR.add {Z N Zm : Nat → Int32} {F G : Nat → Nat → Int32} (h : RR Z N F Zm G) {M a b c d : Nat} (hM : M < 6) (eG : G 0 10 = nI M) (ha : a < 7) (hb : b ≤ 9) (hc : c ≤ 4000) (hd1 : 1 ≤ d) (hd : d ≤ 999) : RR Z (upd (upd (upd (upd N 1 (nI (M + 1))) 2 (nI (M + 1))) 3 (nI (M + 1))) 4 (nI (M + 1))) (va_up (va_up (va_up (va_up F 1 (upd (F 1) M (nI a))) 2 (upd (F 2) M (nI b))) 3 (upd (F 3) M (nI c))) 4 (upd (F 4) M (nI d))) Zm (va_up G 0 (zz_th (G 0) M (nI a) (nI b) (nI c) (nI d))) := by
  have g10 : zz_th (G 0) M (nI a) (nI b) (nI c) (nI d) 10 = nI (M + 1) := (zz_th_10 _ _ _ _ _ _).trans (by rw [eG, nI_succ])
  have gne : ∀ {j : Nat}, j ≠ 10 → (j < 12 + 4 * M ∨ 12 + 4 * M + 3 < j) → zz_th (G 0) M (nI a) (nI b) (nI c) (nI d) j = G 0 j := fun h1 h2 => zz_th_ne _ _ _ _ _ _ h1 h2
  have hl : (G 0 10).toNatClampNeg = M := by rw [eG, nI_clamp (by omega)]
  have hL := px_lim_n (n := M + 1) (L := 6) (by omega) (by omega)
  refine RR.now h (fun _ _ => rfl) (fun j hj => ?_) (fun j hj => ?_) ?_ ?_ ?_ (h.tt.cg ⟨rfl, rfl⟩ ⟨rfl, rfl⟩ (fun j hj => gne (by omega) (by omega)))
  · rw [px_upd_ne _ _ (by omega), px_upd_ne _ _ (by omega), px_upd_ne _ _ (by omega), px_upd_ne _ _ (by omega)]
  · rw [px_up_ne _ _ (by omega), px_up_ne _ _ (by omega), px_up_ne _ _ (by omega), px_up_ne _ _ (by omega)]
  · exact (((h.1.upd (by decide) (by decide) (by decide) hL).upd (by decide) (by decide) (by decide) hL).upd (by decide) (by decide) (by decide) hL).upd (by decide) (by decide) (by decide) hL
  · obtain ⟨w0, ⟨P, p1, p2⟩, ⟨W, w1, w2⟩, ⟨M2, m1, m2, m3⟩, t0, t1⟩ := h.2.1
    have eM : M2 = M := by rw [m2, nI_clamp (by omega)] at hl; exact hl
    subst eM
    obtain ⟨u0, u1⟩ := r_txf_congr (f := G 0) (g := zz_th (G 0) M2 (nI a) (nI b) (nI c) (nI d)) (fun j h1 h2 => gne (by omega) (by omega)) t0 t1
    refine ⟨g_wall_congr w0 (fun j hj => gne (by omega) (by omega)), ⟨P, p1, (gne (by omega) (by omega)).trans p2⟩, ⟨W, w1, (gne (by omega) (by omega)).trans w2⟩, ⟨M2 + 1, by omega, g10, fun n hn => ?_⟩, u0, u1⟩
    by_cases cn : n = M2
    · subst cn
      exact ⟨⟨a, ha, zz_th_0 _ _ _ _ _ _⟩, ⟨b, hb, zz_th_1 _ _ _ _ _ _⟩, ⟨c, hc, zz_th_2 _ _ _ _ _ _⟩, ⟨d, hd1, hd, zz_th_3 _ _ _ _ _ _⟩⟩
    · rw [gne (j := 12 + 4 * n + 0) (by omega) (by omega), gne (j := 12 + 4 * n + 1) (by omega) (by omega), gne (j := 12 + 4 * n + 2) (by omega) (by omega), gne (j := 12 + 4 * n + 3) (by omega) (by omega)]
      exact m3 n (by omega)
  · obtain ⟨a1, a2, ⟨a3, a4⟩, -, a9, a10, a11⟩ := h.2.2.1
    refine ⟨fun i hi => (a1 i hi).trans (gne (by omega) (by omega)).symm, a2.trans (gne (by omega) (by omega)).symm, ⟨a3.trans (gne (by omega) (by omega)).symm, a4.trans (gne (by omega) (by omega)).symm⟩, ⟨g10.symm, g10.symm, g10.symm, g10.symm⟩, fun n hn => ?_, fun i hi => ?_, fun i hi => ?_⟩
    · rw [g10, nI_clamp (by omega)] at hn
      show upd (F 1) M (nI a) n = _ ∧ upd (F 2) M (nI b) n = _ ∧ upd (F 3) M (nI c) n = _ ∧ upd (F 4) M (nI d) n = _
      by_cases cn : n = M
      · subst cn
        rw [px_upd_self, px_upd_self, px_upd_self, px_upd_self]
        exact ⟨(zz_th_0 _ _ _ _ _ _).symm, (zz_th_1 _ _ _ _ _ _).symm, (zz_th_2 _ _ _ _ _ _).symm, (zz_th_3 _ _ _ _ _ _).symm⟩
      · rw [gne (j := 12 + 4 * n + 0) (by omega) (by omega), gne (j := 12 + 4 * n + 1) (by omega) (by omega), gne (j := 12 + 4 * n + 2) (by omega) (by omega), gne (j := 12 + 4 * n + 3) (by omega) (by omega), px_upd_ne _ _ cn, px_upd_ne _ _ cn, px_upd_ne _ _ cn, px_upd_ne _ _ cn]
        exact a9 n (by omega)
    · rw [gne (j := 8) (by omega) (by omega)] at hi
      exact (a10 i hi).trans (gne (by omega) (by omega)).symm
    · rw [gne (j := 9) (by omega) (by omega)] at hi
      exact (a11 i hi).trans (gne (by omega) (by omega)).symm
theorem st_thing (km from_ width : Int32) : px_st 52 162 [.int km, .int from_, .int width] True := by
  intro Z N F Zm G h
  have hM := h.M
  have hT := h.hT
  have hc := kc_thing (Z := Z) (F := F) h.1 h.hT km from_ width
  have hm := kc_mthing (Z := Zm) (F := G) hM.1 hM.2.1 km from_ width
  by_cases c1 : km < 0 ∨ 69 < km
  · rw [show s_thing Z N F km from_ width = (-1000000000 - 1, Z, N, F) from if_pos c1] at hc
    rw [show s_mthing Zm G km from_ width = (-1000000000 - 1, Zm, G) from if_neg (fun q => px_out.mpr q c1)] at hm
    exact px_st_of (c := True) hc (by decide) hm (by decide) h (fun _ => rfl)
  have d1 := px_out.mp c1
  by_cases c2 : from_ < 0 ∨ 4000 < from_
  · rw [show s_thing Z N F km from_ width = (-1000000000 - 1, Z, N, F) from (if_neg c1).trans (if_pos c2)] at hc
    rw [show s_mthing Zm G km from_ width = (-1000000000 - 1, Zm, G) from (if_pos d1).trans (if_neg (fun q => px_out.mpr q c2))] at hm
    exact px_st_of (c := True) hc (by decide) hm (by decide) h (fun _ => rfl)
  have d2 := px_out.mp c2
  by_cases c3 : 1 ≤ width ∧ width ≤ 999
  case neg =>
    rw [show s_mthing Zm G km from_ width = (-1000000000 - 1, Zm, G) from (if_pos d1).trans ((if_pos d2).trans (if_neg c3))] at hm
    by_cases c4 : width < 1
    · rw [show s_thing Z N F km from_ width = (-1000000000 - 1, Z, N, F) from (if_neg c1).trans ((if_neg c2).trans (if_pos c4))] at hc
      exact px_st_of (c := True) hc (by decide) hm (by decide) h (fun _ => rfl)
    · rw [show s_thing Z N F km from_ width = (-1000000000 - 1, Z, N, F) from (if_neg c1).trans ((if_neg c2).trans ((if_neg c4).trans (if_neg (fun q => c3 ⟨Int32.not_lt.mp c4, q⟩))))] at hc
      exact px_st_of (c := True) hc (by decide) hm (by decide) h (fun _ => rfl)
  have n4 : ¬ (width < 1) := Int32.not_lt.mpr c3.1
  obtain ⟨M, eM⟩ : ∃ M : Nat, (G 0 10).toNatClampNeg = M := ⟨_, rfl⟩
  have eG : G 0 10 = nI M := by rw [← eM]; exact hM.1
  have hM6 : M ≤ 6 := by rw [← eM]; exact hM.2.1
  have eN : N 1 = nI M := by rw [← eM]; exact hM.2.2.1
  by_cases cM : M = 6
  · subst cM
    rw [show s_thing Z N F km from_ width = (-1000000000 - 4, Z, N, F) from (if_neg c1).trans ((if_neg c2).trans ((if_neg n4).trans ((if_pos c3.2).trans (if_neg (by rw [eN]; decide)))))] at hc
    rw [show s_mthing Zm G km from_ width = (-1000000000 - 4, Zm, G) from (if_pos d1).trans ((if_pos d2).trans ((if_pos c3).trans (if_pos eG)))] at hm
    exact px_st_of (c := True) hc (by decide) hm (by decide) h (fun _ => rfl)
  · have c5 : (1 : Int32) ≤ 6 - N 1 := by
      rw [eN, show (6 : Int32) = nI 6 from rfl, zz_sub hM6]
      exact (nI_leI (a := 1) (by omega) (by omega)).mpr (by omega)
    have c6 : ¬ (G 0 10 = 6) := fun q => cM ((nI_eq (b := 6) (by omega) (by omega)).mp (eG.symm.trans q))
    obtain ⟨q, -, hq, rfl⟩ := zz_rng (a := 0) (b := 69) (by omega) (by omega) d1.1 d1.2
    obtain ⟨c, -, hc4, rfl⟩ := zz_rng (a := 0) (b := 4000) (by omega) (by omega) d2.1 d2.2
    obtain ⟨d, hd1, hd, rfl⟩ := zz_rng (a := 1) (b := 999) (by omega) (by omega) c3.1 c3.2
    have key : ∀ q : Fin 70, nI q.1 / 10 = nI (q.1 / 10) ∧ nI q.1 - nI q.1 / 10 * 10 = nI (q.1 % 10) := by decide +kernel
    obtain ⟨k1, k2⟩ := key ⟨q, by omega⟩
    have k1 : nI q / 10 = nI (q / 10) := k1
    have k2 : nI q - nI q / 10 * 10 = nI (q % 10) := k2
    have e1 : (N 1).toNatClampNeg = M := by rw [eN, nI_clamp (by omega)]
    have t1 : N 1 + 1 = nI (M + 1) := by rw [eN, nI_succ]
    have e0 : N 1 + 1 - 1 = nI M := by rw [t1]; exact nI_pred M
    rw [show s_thing Z N F (nI q) (nI c) (nI d) = (nI M, Z, (upd (upd (upd (upd N 1 (nI (M + 1))) 2 (nI (M + 1))) 3 (nI (M + 1))) 4 (nI (M + 1))), (va_up (va_up (va_up (va_up F 1 (upd (F 1) M (nI (q / 10)))) 2 (upd (F 2) M (nI (q % 10)))) 3 (upd (F 3) M (nI c))) 4 (upd (F 4) M (nI d)))) from ((if_neg c1).trans ((if_neg c2).trans ((if_neg n4).trans ((if_pos c3.2).trans (if_pos c5))))).trans (by rw [hT.1, hT.2.1, hT.2.2, k2, k1, e0, e1, t1])] at hc
    rw [show s_mthing Zm G (nI q) (nI c) (nI d) = (nI M, Zm, va_up G 0 (zz_th (G 0) M (nI (q / 10)) (nI (q % 10)) (nI c) (nI d))) from ((if_pos d1).trans ((if_pos d2).trans ((if_pos c3).trans (if_neg c6)))).trans (by rw [eM, k2, k1, px_up_up, px_up_up, px_up_up, px_up_up, eG]; rfl)] at hm
    exact px_st_of (c := True) hc (by decide) hm (by decide) (h.add (by omega) eG (by omega) (by omega) hc4 hd1 hd) (fun _ => rfl)
end
/-! part 59.untell -/
section
theorem zz_txb {f g : Nat → Int32} {b : Nat} {ok : Int32 → Prop} (he : ∀ j : Nat, b ≤ j → j ≤ b + 124 → g j = f j) (hh : f b = 0 ∨ ∃ n : Nat, n ≤ 62 ∧ f b = nI n ∧ r_wf ok (fun k => f (b + 1 + 2 * k)) (fun k => f (b + 2 + 2 * k)) n 0 0) : g b = 0 ∨ ∃ n : Nat, n ≤ 62 ∧ g b = nI n ∧ r_wf ok (fun k => g (b + 1 + 2 * k)) (fun k => g (b + 2 + 2 * k)) n 0 0 := by
  rw [he b (by omega) (by omega)]
  rcases hh with hh | ⟨n, h1, h2, h3⟩
  · exact Or.inl hh
  · refine Or.inr ⟨n, h1, h2, ?_⟩
    have cg : ∀ (m k d : Nat), k + m ≤ 62 → r_wf ok (fun k => f (b + 1 + 2 * k)) (fun k => f (b + 2 + 2 * k)) m k d → r_wf ok (fun k => g (b + 1 + 2 * k)) (fun k => g (b + 2 + 2 * k)) m k d := by
      intro m
      induction m with
      | zero => exact fun _ _ _ q => q
      | succ m ih =>
        intro k d hk hw
        show (g (b + 1 + 2 * k) = 0 ∧ _) ∨ (g (b + 1 + 2 * k) = 1 ∧ ok (g (b + 2 + 2 * k)) ∧ _) ∨ (g (b + 1 + 2 * k) = 2 ∧ _) ∨ (g (b + 1 + 2 * k) = 3 ∧ _)
        rw [he (b + 1 + 2 * k) (by omega) (by omega), he (b + 2 + 2 * k) (by omega) (by omega)]
        rcases hw with q | q | q | q
        · exact Or.inl ⟨q.1, ih (k + 1) (d + 1) (by omega) q.2⟩
        · exact Or.inr (Or.inl ⟨q.1, q.2.1, ih (k + 1) (d + 1) (by omega) q.2.2⟩)
        · exact Or.inr (Or.inr (Or.inl ⟨q.1, q.2.1, ih (k + 1) d (by omega) q.2.2⟩))
        · exact Or.inr (Or.inr (Or.inr ⟨q.1, q.2.1, ih (k + 1) (d - 1) (by omega) q.2.2⟩))
    exact cg n 0 0 (by omega) h3
/-- a text of the row is another, in the reference; the class's text lies apart -/
theorem RR.text {Z N Zm : Nat → Int32} {F G : Nat → Nat → Int32} {N' : Nat → Int32} {F' : Nat → Nat → Int32} {g : Nat → Int32} (h : RR Z N F Zm G) (hN : ∀ j : Nat, ¬ (j = 6 ∨ j = 7) → N' j = N j) (hF : ∀ j : Nat, ¬ (j = 6 ∨ j = 7) → F' j = F j) (hw : px_cw N') (he : ∀ j : Nat, j < 36 ∨ 286 ≤ j → g j = G 0 j) (t0 : r_txf0 g) (t1 : r_txf1 g) (hx : g_tt 0 N' F' g) : RR Z N' F' Zm (va_up G 0 g) := by
  refine RR.now h (fun _ _ => rfl) (fun j hj => hN j (by omega)) (fun j hj => hF j (by omega)) hw ?_ ?_ hx
  · obtain ⟨w0, ⟨P, p1, p2⟩, ⟨W, w1, w2⟩, ⟨M2, m1, m2, m3⟩, -, -⟩ := h.2.1
    refine ⟨g_wall_congr w0 (fun j hj => he j (by omega)), ⟨P, p1, (he _ (by omega)).trans p2⟩, ⟨W, w1, (he _ (by omega)).trans w2⟩, ⟨M2, m1, (he _ (by omega)).trans m2, fun n hn => ?_⟩, t0, t1⟩
    rw [he (12 + 4 * n + 0) (by omega), he (12 + 4 * n + 1) (by omega), he (12 + 4 * n + 2) (by omega), he (12 + 4 * n + 3) (by omega)]
    exact m3 n hn
  · obtain ⟨a1, a2, ⟨a3, a4⟩, ⟨a5, a6, a7, a8⟩, a9, a10, a11⟩ := h.2.2.1
    have hM := h.M
    rw [g_rel, he 7 (by omega), he 8 (by omega), he 9 (by omega), he 10 (by omega), hN (0 + 5) (by omega), hN (0 + 8) (by omega), hN (0 + 1) (by omega), hN (0 + 2) (by omega), hN (0 + 3) (by omega), hN (0 + 4) (by omega), hF 0 (by omega), hF (0 + 1) (by omega), hF (0 + 2) (by omega), hF (0 + 3) (by omega), hF (0 + 4) (by omega), hF (0 + 5) (by omega), hF (0 + 8) (by omega)]
    refine ⟨fun i hi => (a1 i hi).trans (he i (by omega)).symm, a2, ⟨a3, a4⟩, ⟨a5, a6, a7, a8⟩, fun n hn => ?_, fun i hi => (a10 i hi).trans (he _ (by omega)).symm, fun i hi => (a11 i hi).trans (he _ (by omega)).symm⟩
    rw [he (12 + 4 * n + 0) (by omega), he (12 + 4 * n + 1) (by omega), he (12 + 4 * n + 2) (by omega), he (12 + 4 * n + 3) (by omega)]
    exact a9 n hn
theorem st_untell (use : Int32) : px_st 59 138 [.int use] False := by
  intro Z N F Zm G h
  by_cases c0 : use = 0
  · subst c0
    have hc := kc_untell0 (Z := Z) (F := F) h.1
    have hm := kc_muntell0 (Z := Zm) (F := G)
    rw [show (s_untell0 Z N F).2 = (Z, upd N 6 0, F) from by unfold s_untell0; split <;> rfl] at hc
    rw [show (s_muntell0 Zm G).2 = (Zm, va_up G 0 (upd (G 0) 36 0)) from by unfold s_muntell0; split <;> rfl] at hm
    refine px_st_of hc (by decide) hm (by decide) (h.text (fun j hj => px_upd_ne _ _ (by omega)) (fun _ _ => rfl) (h.1.upd (by decide) (by decide) (by decide) ⟨by decide, by decide⟩) (fun j hj => px_upd_ne _ _ (by omega)) (Or.inl (px_upd_self _ _ _)) ?_ ⟨h.tt.1.cg (px_upd_ne _ _ (by omega)) (fun j h1 h2 => px_upd_ne _ _ (by omega)), g_tu.nil rfl rfl, h.tt.2.2.cg rfl (fun _ _ => rfl) (fun j h1 h2 => px_upd_ne _ _ (by omega))⟩) (fun q => q.elim)
    exact zz_txb (b := 161) (ok := r_ok1) (fun j h1 h2 => px_upd_ne _ _ (by omega)) h.tx1
  by_cases c1 : use = 1
  · subst c1
    have hc := kc_untell1 (Z := Z) (F := F) h.1
    have hm := kc_muntell1 (Z := Zm) (F := G)
    rw [show (s_untell1 Z N F).2 = (Z, upd N 7 0, F) from by unfold s_untell1; split <;> rfl] at hc
    rw [show (s_muntell1 Zm G).2 = (Zm, va_up G 0 (upd (G 0) 161 0)) from by unfold s_muntell1; split <;> rfl] at hm
    refine px_st_of hc (by decide) hm (by decide) (h.text (fun j hj => px_upd_ne _ _ (by omega)) (fun _ _ => rfl) (h.1.upd (by decide) (by decide) (by decide) ⟨by decide, by decide⟩) (fun j hj => px_upd_ne _ _ (by omega)) ?_ (Or.inl (px_upd_self _ _ _)) ⟨h.tt.1.cg (px_upd_ne _ _ (by omega)) (fun j h1 h2 => px_upd_ne _ _ (by omega)), h.tt.2.1.cg rfl (fun _ _ => rfl) (fun j h1 h2 => px_upd_ne _ _ (by omega)), g_tu.nil rfl rfl⟩) (fun q => q.elim)
    exact zz_txb (b := 36) (ok := r_ok0) (fun j h1 h2 => px_upd_ne _ _ (by omega)) h.tx0
  · exact px_st_of (kc_untellB h.1 use (fun q => q.elim c0 c1)) (by decide) (kc_muntellB use (fun q => q.elim c0 c1)) (by decide) h (fun q => q.elim)
theorem g_tu_has {u b q : Nat} {N : Nat → Int32} {F : Nat → Nat → Int32} {f : Nat → Int32} (h : g_tu u b q N F f) : N q ≤ 0 ↔ ¬ (0 < f b) := by
  obtain ⟨l, h1, h2, h3, -⟩ := h
  rw [h2, h3, Int32.not_lt]
theorem g_tu_un0 {Z N Zm : Nat → Int32} {F G : Nat → Nat → Int32} (h : g_tu 0 36 (0 + 6) N F (G 0)) : (s_untell0 Z N F).1 = (s_muntell0 Zm G).1 := by
  have e := g_tu_has h
  unfold s_untell0 s_muntell0
  by_cases c : N 6 ≤ 0
  · rw [if_pos c, if_neg (e.mp c)]
  · rw [if_neg c, if_pos (Decidable.byContradiction (fun q => c (e.mpr q)))]
theorem g_tu_un1 {Z N Zm : Nat → Int32} {F G : Nat → Nat → Int32} (h : g_tu 1 161 (0 + 7) N F (G 0)) : (s_untell1 Z N F).1 = (s_muntell1 Zm G).1 := by
  have e := g_tu_has h
  unfold s_untell1 s_muntell1
  by_cases c : N 7 ≤ 0
  · rw [if_pos c, if_neg (e.mp c)]
  · rw [if_neg c, if_pos (Decidable.byContradiction (fun q => c (e.mpr q)))]
theorem st_untellT (use : Int32) : px_st 59 138 [.int use] True := by
  intro Z N F Zm G h
  by_cases c0 : use = 0
  · subst c0
    have hc := kc_untell0 (Z := Z) (F := F) h.1
    have hm := kc_muntell0 (Z := Zm) (F := G)
    rw [show (s_untell0 Z N F).2 = (Z, upd N 6 0, F) from by unfold s_untell0; split <;> rfl] at hc
    rw [show (s_muntell0 Zm G).2 = (Zm, va_up G 0 (upd (G 0) 36 0)) from by unfold s_muntell0; split <;> rfl] at hm
    refine px_st_of hc (by decide) hm (by decide) (h.text (fun j hj => px_upd_ne _ _ (by omega)) (fun _ _ => rfl) (h.1.upd (by decide) (by decide) (by decide) ⟨by decide, by decide⟩) (fun j hj => px_upd_ne _ _ (by omega)) (Or.inl (px_upd_self _ _ _)) ?_ ⟨h.tt.1.cg (px_upd_ne _ _ (by omega)) (fun j h1 h2 => px_upd_ne _ _ (by omega)), g_tu.nil rfl rfl, h.tt.2.2.cg rfl (fun _ _ => rfl) (fun j h1 h2 => px_upd_ne _ _ (by omega))⟩) (fun _ => g_tu_un0 h.tt.2.1)
    exact zz_txb (b := 161) (ok := r_ok1) (fun j h1 h2 => px_upd_ne _ _ (by omega)) h.tx1
  by_cases c1 : use = 1
  · subst c1
    have hc := kc_untell1 (Z := Z) (F := F) h.1
    have hm := kc_muntell1 (Z := Zm) (F := G)
    rw [show (s_untell1 Z N F).2 = (Z, upd N 7 0, F) from by unfold s_untell1; split <;> rfl] at hc
    rw [show (s_muntell1 Zm G).2 = (Zm, va_up G 0 (upd (G 0) 161 0)) from by unfold s_muntell1; split <;> rfl] at hm
    refine px_st_of hc (by decide) hm (by decide) (h.text (fun j hj => px_upd_ne _ _ (by omega)) (fun _ _ => rfl) (h.1.upd (by decide) (by decide) (by decide) ⟨by decide, by decide⟩) (fun j hj => px_upd_ne _ _ (by omega)) ?_ (Or.inl (px_upd_self _ _ _)) ⟨h.tt.1.cg (px_upd_ne _ _ (by omega)) (fun j h1 h2 => px_upd_ne _ _ (by omega)), h.tt.2.1.cg rfl (fun _ _ => rfl) (fun j h1 h2 => px_upd_ne _ _ (by omega)), g_tu.nil rfl rfl⟩) (fun _ => g_tu_un1 h.tt.2.2)
    exact zz_txb (b := 36) (ok := r_ok0) (fun j h1 h2 => px_upd_ne _ _ (by omega)) h.tx0
  · exact px_st_of (kc_untellB h.1 use (fun q => q.elim c0 c1)) (by decide) (kc_muntellB use (fun q => q.elim c0 c1)) (by decide) h (fun _ => rfl)
end
