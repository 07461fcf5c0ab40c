/-! calls that change THINGS, what waits, THE TAPE -/
def g_th (f : Nat → Int32) (n : Nat) : Prop := (∃ a : Nat, a < 7 ∧ f (12 + 4 * n + 0) = nI a) ∧ (∃ a : Nat, a ≤ 9 ∧ f (12 + 4 * n + 1) = nI a) ∧ (∃ a : Nat, a ≤ 4000 ∧ f (12 + 4 * n + 2) = nI a) ∧ (∃ a : Nat, 1 ≤ a ∧ a ≤ 999 ∧ f (12 + 4 * n + 3) = nI a)
def g_te (F : Nat → Nat → Int32) (f : Nat → Int32) (n : Nat) : Prop := F 1 n = f (12 + 4 * n + 0) ∧ F 2 n = f (12 + 4 * n + 1) ∧ F 3 n = f (12 + 4 * n + 2) ∧ F 4 n = f (12 + 4 * n + 3)
theorem g_wall_congr {f g : Nat → Int32} (h : g_wall f) (he : ∀ j : Nat, j < 7 → g j = f j) : g_wall g := by
  obtain ⟨L, T, J, R, B, S, h0, h1, h2, h4, h5, h6, r⟩ := h
  refine ⟨L, T, J, R, B, S, (he 0 (by omega)).trans h0, (he 1 (by omega)).trans h1, (he 2 (by omega)).trans h2, (he 4 (by omega)).trans h4, (he 5 (by omega)).trans h5, (he 6 (by omega)).trans h6, ?_⟩
  rw [he 3 (by omega)]
  exact r
/-- all of the rows now may change; what is to be shown of them -/
theorem RR.now {Z Z' N N' Zm : Nat → Int32} {F F' G : Nat → Nat → Int32} {g : Nat → Int32} (h : RR Z N F Zm G) (hz : ∀ j : Nat, j ≠ 0 → Z' j = Z j) (hN : ∀ j : Nat, 9 ≤ j → N' j = N j) (hF : ∀ j : Nat, 9 ≤ j → F' j = F j) (hw : px_cw N') (hg : g_row_ok g) (hr : g_rel 0 (Z' 0) N' F' g) (hx : g_tt 0 N' F' g) : RR Z' N' F' Zm (va_up G 0 g) := by
  obtain ⟨b0, b1, b2, b3, b4, b5, b6, b7, b8⟩ := h
  refine ⟨hw, hg, hr, (hz 21 (by omega)).trans b3, ?_, g_sh_far b5 (fun j h1 h2 => hz j (by omega)) (fun j h1 h2 => hN j (by omega)) (fun j h1 h2 => hF j (by omega)) ⟨rfl, rfl, rfl⟩, b6, b7, b8.1, hx, fun q => (b8.2.2 (by rw [← hz 21 (by omega)]; exact q)).cg ⟨hN 15 (by omega), hN 16 (by omega)⟩ ⟨hF 15 (by omega), hF 16 (by omega)⟩ (fun _ _ => rfl)⟩
  rw [hz 21 (by omega), hz 1 (by omega)]
  exact fun q => ⟨(b4 q).1, g_rel_far (b4 q).2 (fun j h1 h2 => hN j (by omega)) (fun j h1 h2 => hF j (by omega))⟩
theorem RR.things {Z N Zm : Nat → Int32} {F F' G : Nat → Nat → Int32} {g : Nat → Int32} (h : RR Z N F Zm G) (he : ∀ j : Nat, j < 12 ∨ 36 ≤ j → g j = G 0 j) (hF : ∀ j : Nat, j = 0 ∨ 5 ≤ j → F' j = F j) (ht : ∀ n : Nat, n < (G 0 10).toNatClampNeg → g_th g n ∧ g_te F' g n) : RR Z N F' Zm (va_up G 0 g) := by
  obtain ⟨b0, b1, b2, b3, b4, b5, b6, b7, b8⟩ := h
  obtain ⟨w0, ⟨P, p1, p2⟩, ⟨W, w1, w2⟩, ⟨M, m1, m2, m3⟩, t0, t1⟩ := b1
  have htx := r_txf_congr (g := g) (fun j h1 h2 => he j (by omega)) t0 t1
  have eM : (G 0 10).toNatClampNeg = M := by rw [m2, nI_clamp (by omega)]
  rw [eM] at ht
  obtain ⟨a1, a2, ⟨a3, a4⟩, ⟨a5, a6, a7, a8⟩, a9, a10, a11⟩ := b2
  refine RR.now (N := N) ⟨b0, ⟨w0, ⟨P, p1, p2⟩, ⟨W, w1, w2⟩, ⟨M, m1, m2, m3⟩, t0, t1⟩, ⟨a1, a2, ⟨a3, a4⟩, ⟨a5, a6, a7, a8⟩, a9, a10, a11⟩, b3, b4, b5, b6, b7, b8⟩ (fun _ _ => rfl) (fun _ _ => rfl) (fun j hj => hF j (by omega)) b0 ?_ ?_ (b8.2.1.cg ⟨rfl, rfl⟩ ⟨hF 6 (by omega), hF 7 (by omega)⟩ (fun j hj => he j (by omega)))
  · exact ⟨g_wall_congr w0 (fun j hj => he j (by omega)), ⟨P, p1, (he 8 (by omega)).trans p2⟩, ⟨W, w1, (he 9 (by omega)).trans w2⟩, ⟨M, m1, (he 10 (by omega)).trans m2, fun n hn => (ht n hn).1⟩, htx.1, htx.2⟩
  · refine ⟨fun i hi => ?_, a2.trans (he 7 (by omega)).symm, ⟨a3.trans (he 8 (by omega)).symm, a4.trans (he 9 (by omega)).symm⟩, ?_, ?_, ?_, ?_⟩
    · rw [hF 0 (by omega), he i (by omega)]; exact a1 i hi
    · rw [he 10 (by omega)]; exact ⟨a5, a6, a7, a8⟩
    · rw [he 10 (by omega), eM]; exact fun n hn => (ht n hn).2
    · rw [he 8 (by omega), hF (0 + 5) (by omega)]
      intro i hi
      rw [he _ (by omega)]
      exact a10 i hi
    · rw [he 9 (by omega), hF (0 + 8) (by omega)]
      intro i hi
      rw [he _ (by omega)]
      exact a11 i hi
theorem RR.th {Z N Zm : Nat → Int32} {F G : Nat → Nat → Int32} (h : RR Z N F Zm G) {n : Nat} (hn : n < (G 0 10).toNatClampNeg) : g_th (G 0) n ∧ g_te F (G 0) n := by
  obtain ⟨-, ⟨-, -, -, ⟨M, m1, m2, m3⟩, -, -⟩, ⟨-, -, -, -, a9, -⟩, -⟩ := h
  have eM : (G 0 10).toNatClampNeg = M := by rw [m2, nI_clamp (by omega)]
  exact ⟨m3 n (by omega), a9 n hn⟩
theorem st_hang (thing from_ : Int32) : px_st 56 166 [.int thing, .int from_] True := by
  intro Z N F Zm G h
  have hM := h.M
  have hc := kc_hang (Z := Z) (F := F) h.1 h.hT thing from_
  have hm := kc_mhang (Z := Zm) (F := G) hM.1 hM.2.1 thing from_
  have hq := px_thq (t := thing) hM.1 hM.2.1
  have e1 : N 1 = G 0 10 := h.2.2.1.2.2.2.1.1
  by_cases c : thing < 0 ∨ G 0 10 ≤ thing
  · rw [show s_hang Z N F thing from_ = (-1000000000 - 1, Z, N, F) from if_pos (by rw [e1]; exact c)] at hc
    rw [show s_mhang Zm G thing from_ = (-1000000000 - 1, Zm, G) from if_neg (fun q => hq.mpr q c)] at hm
    exact px_st_of (c := True) hc (by decide) hm (by decide) h (fun _ => rfl)
  · have c2 := hq.mp c
    obtain ⟨e, hl, -⟩ := px_thN hM.1 hM.2.1 c2
    by_cases cf : from_ < 0 ∨ 4000 < from_
    · rw [show s_hang Z N F thing from_ = (-1000000000 - 1, Z, N, F) from (if_neg (by rw [e1]; exact c)).trans (if_pos cf)] at hc
      rw [show s_mhang Zm G thing from_ = (-1000000000 - 1, Zm, G) from (if_pos c2).trans (if_neg (fun q => px_out.mpr q cf))] at hm
      exact px_st_of (c := True) hc (by decide) hm (by decide) h (fun _ => rfl)
    · have cf2 := px_out.mp cf
      rw [show s_hang Z N F thing from_ = (F 3 thing.toNatClampNeg, Z, N, va_up F 3 (upd (F 3) thing.toNatClampNeg from_)) from (if_neg (by rw [e1]; exact c)).trans (if_neg cf)] at hc
      rw [show s_mhang Zm G thing from_ = (G 0 (12 + 4 * thing.toNatClampNeg + 2), Zm, va_up G 0 (upd (G 0) (12 + 4 * thing.toNatClampNeg + 2) from_)) from (if_pos c2).trans (if_pos cf2)] at hm
      generalize thing.toNatClampNeg = t at hc hm hl
      obtain ⟨a, -, a2, rfl⟩ := zz_rng (a := 0) (b := 4000) (by omega) (by omega) cf2.1 cf2.2
      refine px_st_of (c := True) hc (by decide) hm (by decide) (h.things (fun j hj => px_upd_ne _ _ (by omega)) (fun j hj => px_up_ne F _ (by omega)) (fun n hn => ?_)) (fun _ => (h.th hl).2.2.2.1)
      have hh := h.th hn
      by_cases cn : n = t
      · subst cn
        refine ⟨⟨?_, ?_, ⟨a, a2, px_upd_self _ _ _⟩, ?_⟩, ?_, ?_, ?_, ?_⟩
        · rw [px_upd_ne _ _ (by omega)]; exact hh.1.1
        · rw [px_upd_ne _ _ (by omega)]; exact hh.1.2.1
        · rw [px_upd_ne _ _ (by omega)]; exact hh.1.2.2.2
        · rw [px_upd_ne _ _ (by omega)]; exact hh.2.1
        · rw [px_upd_ne _ _ (by omega)]; exact hh.2.2.1
        · rw [px_upd_self]; exact px_upd_self _ _ _
        · rw [px_upd_ne _ _ (by omega)]; exact hh.2.2.2.2
      · refine ⟨?_, ?_, ?_, ?_, ?_⟩
        · unfold g_th
          rw [px_upd_ne _ _ (by omega), px_upd_ne _ _ (by omega), px_upd_ne _ _ (by omega), px_upd_ne _ _ (by omega)]; exact hh.1
        · rw [px_upd_ne _ _ (by omega)]; exact hh.2.1
        · rw [px_upd_ne _ _ (by omega)]; exact hh.2.2.1
        · rw [px_upd_ne _ _ (by omega)]; exact (px_upd_ne _ _ cn).trans hh.2.2.2.1
        · rw [px_upd_ne _ _ (by omega)]; exact hh.2.2.2.2
theorem zz_km {a : Nat} (ha : a ≤ 69) : nI a / 10 = nI (a / 10) ∧ nI a - nI a / 10 * 10 = nI (a % 10) := ⟨zz_div (b := 10) (by omega) (by omega), zz_rem (b := 10) (by omega) (by omega)⟩
theorem st_become (thing km : Int32) : px_st 54 164 [.int thing, .int km] True := by
  intro Z N F Zm G h
  have hM := h.M
  have hc := kc_become (Z := Z) (F := F) h.1 h.hT thing km
  have hm := kc_mbecome (Z := Zm) (F := G) hM.1 hM.2.1 thing km
  have hq := px_thq (t := thing) hM.1 hM.2.1
  have e1 : N 1 = G 0 10 := h.2.2.1.2.2.2.1.1
  by_cases c : thing < 0 ∨ G 0 10 ≤ thing
  · rw [show s_become Z N F thing km = (-1000000000 - 1, Z, N, F) from if_pos (by rw [e1]; exact c)] at hc
    rw [show s_mbecome Zm G thing km = (-1000000000 - 1, Zm, G) from if_neg (fun q => hq.mpr q c)] at hm
    exact px_st_of (c := True) hc (by decide) hm (by decide) h (fun _ => rfl)
  · have c2 := hq.mp c
    obtain ⟨e, hl, -⟩ := px_thN hM.1 hM.2.1 c2
    by_cases cf : km < 0 ∨ 69 < km
    · rw [show s_become Z N F thing km = (-1000000000 - 1, Z, N, F) from (if_neg (by rw [e1]; exact c)).trans (if_pos cf)] at hc
      rw [show s_mbecome Zm G thing km = (-1000000000 - 1, Zm, G) from (if_pos c2).trans (if_neg (fun q => px_out.mpr q cf))] at hm
      exact px_st_of (c := True) hc (by decide) hm (by decide) h (fun _ => rfl)
    · have cf2 := px_out.mp cf
      rw [show s_become Z N F thing km = (F 1 thing.toNatClampNeg, Z, N, va_up (va_up F 1 (upd (F 1) thing.toNatClampNeg (km / 10))) 2 (upd (F 2) thing.toNatClampNeg (km - km / 10 * 10))) from (if_neg (by rw [e1]; exact c)).trans (if_neg cf)] at hc
      rw [show s_mbecome Zm G thing km = (upd (G 0) (12 + 4 * thing.toNatClampNeg + 1) (km - km / 10 * 10) (12 + 4 * thing.toNatClampNeg + 0), Zm, va_up (va_up G 0 (upd (G 0) (12 + 4 * thing.toNatClampNeg + 1) (km - km / 10 * 10))) 0 (upd (upd (G 0) (12 + 4 * thing.toNatClampNeg + 1) (km - km / 10 * 10)) (12 + 4 * thing.toNatClampNeg + 0) (km / 10))) from (if_pos c2).trans (if_pos cf2), px_up_up] at hm
      generalize thing.toNatClampNeg = t at hc hm hl
      obtain ⟨a, -, a2, rfl⟩ := zz_rng (a := 0) (b := 69) (by omega) (by omega) cf2.1 cf2.2
      rw [(zz_km a2).2, (zz_km a2).1] at hc hm
      refine px_st_of (c := True) hc (by decide) hm (by decide) (h.things (fun j hj => ?_) (fun j hj => ?_) (fun n hn => ?_)) (fun _ => ?_)
      · rw [px_upd_ne _ _ (by omega), px_upd_ne _ _ (by omega)]
      · show va_up (va_up F 1 _) 2 _ j = F j
        rw [px_up_ne _ _ (by omega), px_up_ne F _ (by omega)]
      · have hh := h.th hn
        by_cases cn : n = t
        · subst cn
          refine ⟨⟨⟨a / 10, by omega, px_upd_self _ _ _⟩, ⟨a % 10, by omega, ?_⟩, ?_, ?_⟩, ?_, ?_, ?_, ?_⟩
          · rw [px_upd_ne _ _ (by omega)]; exact px_upd_self _ _ _
          · rw [px_upd_ne _ _ (by omega), px_upd_ne _ _ (by omega)]; exact hh.1.2.2.1
          · rw [px_upd_ne _ _ (by omega), px_upd_ne _ _ (by omega)]; exact hh.1.2.2.2
          · rw [px_upd_self]; exact px_upd_self _ _ _
          · rw [px_upd_ne _ _ (by omega), px_upd_self]; exact px_upd_self _ _ _
          · rw [px_upd_ne _ _ (by omega), px_upd_ne _ _ (by omega)]; exact hh.2.2.2.1
          · rw [px_upd_ne _ _ (by omega), px_upd_ne _ _ (by omega)]; exact hh.2.2.2.2
        · have eo : ∀ x : Nat, x < 4 → upd (upd (G 0) (12 + 4 * t + 1) (nI (a % 10))) (12 + 4 * t + 0) (nI (a / 10)) (12 + 4 * n + x) = G 0 (12 + 4 * n + x) := fun x hx => by
            rw [px_upd_ne _ _ (by omega), px_upd_ne _ _ (by omega)]
          refine ⟨?_, ?_, ?_, ?_, ?_⟩
          · unfold g_th
            rw [eo 0 (by omega), eo 1 (by omega), eo 2 (by omega), eo 3 (by omega)]; exact hh.1
          · rw [eo 0 (by omega)]; exact (px_upd_ne _ _ cn).trans hh.2.1
          · rw [eo 1 (by omega)]; exact (px_upd_ne _ _ cn).trans hh.2.2.1
          · rw [eo 2 (by omega)]; exact hh.2.2.2.1
          · rw [eo 3 (by omega)]; exact hh.2.2.2.2
      · rw [px_upd_ne _ _ (by omega)]
        exact (h.th hl).2.1
