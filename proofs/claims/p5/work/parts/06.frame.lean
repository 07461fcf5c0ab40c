/-! A RUN THAT HOLDS OVER HALF A HEAP holds whatever the other half is -/
def px_inv (b : Option Bool) (h : px_H) : Prop := match b with
  | none => True
  | some true => h.2 = []
  | some false => h.1 = []
def px_lf (b : Option Bool) (X : List va_E) (h : px_H) : px_H := match b with
  | none => h
  | some true => (h.1, X)
  | some false => (X, h.2)
def px_lfN (b : Option Bool) (X : List va_E) : px_N → px_N
  | .inl (pc, lv, st, h) => .inl (pc, lv, st, px_lf b X h)
  | .inr (v, h) => .inr (v, px_lf b X h)
def px_invN (b : Option Bool) : px_N → Prop
  | .inl (_, _, _, h) => px_inv b h
  | .inr (_, h) => px_inv b h
def px_frC (b : Option Bool) (X : List va_E) (cb cb' : px_C) : Prop := ∀ (j : Nat) (as : List Value) (h : px_H) (v : Option Value) (h' : px_H), px_inv b h → cb j as h = some (v, h') → cb' j as (px_lf b X h) = some (v, px_lf b X h') ∧ px_inv b h'
/-- a step over half a heap (or the whole one), by calls that know less, is the step over the whole heap by calls that know more -/
def px_fr (act : px_A) : Prop := ∀ (b : Option Bool) (X : List va_E) (cb cb' : px_C), px_frC b X cb cb' → ∀ (pc : Nat) (lv : px_L) (st : List Value) (h : px_H) (r : px_N), px_inv b h → act cb pc lv st h = some r → act cb' pc lv st (px_lf b X h) = some (px_lfN b X r) ∧ px_invN b r
theorem px_lf_cell {b : Option Bool} {X : List va_E} {h : px_H} {k : Nat} {e : va_E} (hi : px_inv b h) (hc : px_cell h k = some e) : px_cell (px_lf b X h) k = some e := by
  obtain ⟨h1, h2⟩ := h
  match b with
  | none => exact hc
  | some true =>
    unfold px_cell at hc ⊢
    have hi : h2 = [] := hi
    subst hi
    cases hb : Nat.blt k 1000 with
    | true => rw [hb] at hc; exact hc
    | false => rw [hb] at hc; cases hc
  | some false =>
    unfold px_cell at hc ⊢
    have hi : h1 = [] := hi
    subst hi
    cases hb : Nat.blt k 1000 with
    | true => rw [hb] at hc; cases hc
    | false => rw [hb] at hc; exact hc
theorem px_lf_put {b : Option Bool} {X : List va_E} {h : px_H} {k : Nat} {e0 : va_E} (e : va_E) (hi : px_inv b h) (hc : px_cell h k = some e0) : px_put (px_lf b X h) k e = px_lf b X (px_put h k e) ∧ px_inv b (px_put h k e) := by
  obtain ⟨h1, h2⟩ := h
  match b with
  | none => exact ⟨rfl, trivial⟩
  | some true =>
    unfold px_cell at hc
    unfold px_put
    have hi : h2 = [] := hi
    subst hi
    cases hb : Nat.blt k 1000 with
    | true => exact ⟨rfl, rfl⟩
    | false => rw [hb] at hc; cases hc
  | some false =>
    unfold px_cell at hc
    unfold px_put
    have hi : h1 = [] := hi
    subst hi
    cases hb : Nat.blt k 1000 with
    | true => rw [hb] at hc; cases hc
    | false => exact ⟨rfl, rfl⟩
theorem px_lf_arr {b : Option Bool} {X : List va_E} {h : px_H} {k n : Nat} {f : Nat → Int32} (hi : px_inv b h) (hc : px_arr h k = some (n, f)) : px_arr (px_lf b X h) k = some (n, f) := by
  have h1 := px_lf_cell (X := X) hi (px_arr_r hc)
  unfold px_arr
  rw [h1]
  rfl
theorem fr_pushi {v : Int32} {n : Nat} : px_fr (px_pushi v n) := by
  intro b X cb cb' _ pc lv st h r hi hr
  cases hr
  exact ⟨rfl, hi⟩
theorem fr_pushl {v : Int64} {n : Nat} : px_fr (px_pushl v n) := by
  intro b X cb cb' _ pc lv st h r hi hr
  cases hr
  exact ⟨rfl, hi⟩
theorem fr_pushr {k n : Nat} : px_fr (px_pushr k n) := by
  intro b X cb cb' _ pc lv st h r hi hr
  cases hr
  exact ⟨rfl, hi⟩
theorem fr_pushn : px_fr px_pushn := by
  intro b X cb cb' _ pc lv st h r hi hr
  cases hr
  exact ⟨rfl, hi⟩
theorem fr_goto {t : Nat} : px_fr (px_goto t) := by
  intro b X cb cb' _ pc lv st h r hi hr
  cases hr
  exact ⟨rfl, hi⟩
theorem fr_ild {i n : Nat} : px_fr (px_ild i n) := by
  intro b X cb cb' _ pc lv st h r hi hr
  unfold px_ild at hr ⊢
  split at hr
  · cases hr; exact ⟨rfl, hi⟩
  · cases hr
theorem fr_lld {i n : Nat} : px_fr (px_lld i n) := by
  intro b X cb cb' _ pc lv st h r hi hr
  unfold px_lld at hr ⊢
  split at hr
  · cases hr; exact ⟨rfl, hi⟩
  · cases hr
theorem fr_ald {i n : Nat} : px_fr (px_ald i n) := by
  intro b X cb cb' _ pc lv st h r hi hr
  unfold px_ald at hr ⊢
  split at hr
  · cases hr; exact ⟨rfl, hi⟩
  · cases hr; exact ⟨rfl, hi⟩
  · cases hr
theorem fr_iinc {i : Nat} {c : Int32} : px_fr (px_iinc i c) := by
  intro b X cb cb' _ pc lv st h r hi hr
  unfold px_iinc at hr ⊢
  split at hr
  · cases hr; exact ⟨rfl, hi⟩
  · cases hr
theorem fr_ist {i n : Nat} : px_fr (px_ist i n) := by
  intro b X cb cb' _ pc lv st h r hi hr
  unfold px_ist at hr ⊢
  split at hr
  · cases hr; exact ⟨rfl, hi⟩
  · cases hr
theorem fr_ast {i n : Nat} : px_fr (px_ast i n) := by
  intro b X cb cb' _ pc lv st h r hi hr
  unfold px_ast at hr ⊢
  split at hr
  · cases hr; exact ⟨rfl, hi⟩
  · cases hr; exact ⟨rfl, hi⟩
  · cases hr
theorem fr_dup  : px_fr (px_dup ) := by
  intro b X cb cb' _ pc lv st h r hi hr
  unfold px_dup at hr ⊢
  split at hr
  · cases hr; exact ⟨rfl, hi⟩
  · cases hr; exact ⟨rfl, hi⟩
  · cases hr
theorem fr_dup2  : px_fr (px_dup2 ) := by
  intro b X cb cb' _ pc lv st h r hi hr
  unfold px_dup2 at hr ⊢
  split at hr
  · cases hr; exact ⟨rfl, hi⟩
  · cases hr
theorem fr_popi  : px_fr (px_popi ) := by
  intro b X cb cb' _ pc lv st h r hi hr
  unfold px_popi at hr ⊢
  split at hr
  · cases hr; exact ⟨rfl, hi⟩
  · cases hr
theorem fr_bin {f : Int32 → Int32 → Int32} : px_fr (px_bin f) := by
  intro b X cb cb' _ pc lv st h r hi hr
  unfold px_bin at hr ⊢
  split at hr
  · cases hr; exact ⟨rfl, hi⟩
  · cases hr
theorem fr_un {f : Int32 → Int32} : px_fr (px_un f) := by
  intro b X cb cb' _ pc lv st h r hi hr
  unfold px_un at hr ⊢
  split at hr
  · cases hr; exact ⟨rfl, hi⟩
  · cases hr
theorem fr_i2l  : px_fr (px_i2l ) := by
  intro b X cb cb' _ pc lv st h r hi hr
  unfold px_i2l at hr ⊢
  split at hr
  · cases hr; exact ⟨rfl, hi⟩
  · cases hr
theorem fr_l2i  : px_fr (px_l2i ) := by
  intro b X cb cb' _ pc lv st h r hi hr
  unfold px_l2i at hr ⊢
  split at hr
  · cases hr; exact ⟨rfl, hi⟩
  · cases hr
theorem fr_lbin {f : Int64 → Int64 → Int64} : px_fr (px_lbin f) := by
  intro b X cb cb' _ pc lv st h r hi hr
  unfold px_lbin at hr ⊢
  split at hr
  · cases hr; exact ⟨rfl, hi⟩
  · cases hr
theorem fr_lsh {f : Int64 → Int32 → Int64} : px_fr (px_lsh f) := by
  intro b X cb cb' _ pc lv st h r hi hr
  unfold px_lsh at hr ⊢
  split at hr
  · cases hr; exact ⟨rfl, hi⟩
  · cases hr
theorem fr_if {f : Int32 → Bool} {t : Nat} : px_fr (px_if f t) := by
  intro b X cb cb' _ pc lv st h r hi hr
  unfold px_if at hr ⊢
  split at hr
  · cases hr; exact ⟨rfl, hi⟩
  · cases hr
theorem fr_icmp {f : Int32 → Int32 → Bool} {t : Nat} : px_fr (px_icmp f t) := by
  intro b X cb cb' _ pc lv st h r hi hr
  unfold px_icmp at hr ⊢
  split at hr
  · cases hr; exact ⟨rfl, hi⟩
  · cases hr
theorem fr_ifnull {t : Nat} : px_fr (px_ifnull t) := by
  intro b X cb cb' _ pc lv st h r hi hr
  unfold px_ifnull at hr ⊢
  split at hr
  · cases hr; exact ⟨rfl, hi⟩
  · cases hr; exact ⟨rfl, hi⟩
  · cases hr
theorem fr_ifnn {t : Nat} : px_fr (px_ifnn t) := by
  intro b X cb cb' _ pc lv st h r hi hr
  unfold px_ifnn at hr ⊢
  split at hr
  · cases hr; exact ⟨rfl, hi⟩
  · cases hr; exact ⟨rfl, hi⟩
  · cases hr
theorem fr_tsw {lo : Int} {ts : List Nat} {d : Nat} : px_fr (px_tsw lo ts d) := by
  intro b X cb cb' _ pc lv st h r hi hr
  unfold px_tsw at hr ⊢
  split at hr
  · cases hr; exact ⟨rfl, hi⟩
  · cases hr
theorem fr_lsw {ps : List (Int × Nat)} {d : Nat} : px_fr (px_lsw ps d) := by
  intro b X cb cb' _ pc lv st h r hi hr
  unfold px_lsw at hr ⊢
  split at hr
  · cases hr; exact ⟨rfl, hi⟩
  · cases hr
theorem fr_iret  : px_fr (px_iret ) := by
  intro b X cb cb' _ pc lv st h r hi hr
  unfold px_iret at hr ⊢
  split at hr
  · cases hr; exact ⟨rfl, hi⟩
  · cases hr
theorem fr_aret  : px_fr (px_aret ) := by
  intro b X cb cb' _ pc lv st h r hi hr
  unfold px_aret at hr ⊢
  split at hr
  · cases hr; exact ⟨rfl, hi⟩
  · cases hr; exact ⟨rfl, hi⟩
  · cases hr
theorem fr_vret  : px_fr (px_vret ) := by
  intro b X cb cb' _ pc lv st h r hi hr
  unfold px_vret at hr ⊢
  split at hr
  · cases hr; exact ⟨rfl, hi⟩
  · cases hr
theorem fr_bin0 {f : Int32 → Int32 → Int32} : px_fr (px_bin0 f) := by
  intro b X cb cb' _ pc lv st h r hi hr
  unfold px_bin0 at hr ⊢
  split at hr
  · next y x r0 =>
    cases hc : (decide (y = 0)) with
    | true => rw [hc] at hr; cases hr
    | false =>
      rw [hc] at hr
      cases hr
      try dsimp only
      try rw [hc]
      exact ⟨rfl, hi⟩
  · cases hr
theorem fr_mx {f : Int32 → Int32 → Int32} : px_fr (px_mx f) := by
  intro b X cb cb' _ pc lv st h r hi hr
  unfold px_mx at hr ⊢
  split at hr
  · next y x r0 =>
    cases hc : (Nat.ble (px_cat r0) 8) with
    | false => rw [hc] at hr; cases hr
    | true =>
      rw [hc] at hr
      cases hr
      try dsimp only
      try rw [hc]
      exact ⟨rfl, hi⟩
  · cases hr
theorem fr_zret  : px_fr (px_zret ) := by
  intro b X cb cb' _ pc lv st h r hi hr
  unfold px_zret at hr ⊢
  split at hr
  · next x =>
    cases hc : (x == 0 || x == 1) with
    | false => rw [hc] at hr; cases hr
    | true =>
      rw [hc] at hr
      cases hr
      try dsimp only
      try rw [hc]
      exact ⟨rfl, hi⟩
  · cases hr
theorem fr_bret : px_fr px_bret := by
  intro b X cb cb' _ pc lv st h r hi hr
  unfold px_bret at hr ⊢
  split at hr
  · next x =>
    cases hc : (x == 0) with
    | false => rw [hc] at hr; cases hr
    | true =>
      rw [hc] at hr
      cases hr
      try dsimp only
      try rw [hc]
      exact ⟨rfl, hi⟩
  · cases hr
theorem fr_strv : px_fr px_strv := by
  intro b X cb cb' _ pc lv st h r hi hr
  unfold px_strv at hr ⊢
  split at hr
  · next a r0 =>
    try dsimp only
    cases hc : px_isK a with
    | false => rw [hc] at hr; cases hr
    | true =>
      rw [hc] at hr
      cases hr
      exact ⟨rfl, hi⟩
  · cases hr
theorem fr_strc : px_fr px_strc := by
  intro b X cb cb' _ pc lv st h r hi hr
  unfold px_strc at hr ⊢
  split at hr
  · next a r0 =>
    try dsimp only
    cases hc : px_isK a with
    | false => rw [hc] at hr; cases hr
    | true =>
      rw [hc] at hr
      cases hr
      exact ⟨rfl, hi⟩
  · cases hr
theorem fr_bald : px_fr px_bald := by
  intro b X cb cb' _ pc lv st h r hi hr
  unfold px_bald at hr ⊢
  split at hr
  · next i a r0 =>
    try dsimp only
    cases hc : px_inb i 3 with
    | false => rw [hc] at hr; cases hr
    | true =>
      rw [hc] at hr
      cases h0 : Nat.beq a 3012 with
      | true =>
        rw [h0] at hr
        cases hr
        exact ⟨rfl, hi⟩
      | false =>
        rw [h0] at hr
        cases h1 : Nat.beq a 3013 with
        | false => rw [h1] at hr; cases hr
        | true =>
          rw [h1] at hr
          cases hr
          exact ⟨rfl, hi⟩
  · cases hr
theorem fr_slen : px_fr px_slen := by
  intro b X cb cb' _ pc lv st h r hi hr
  unfold px_slen at hr ⊢
  split at hr
  · next a r0 =>
    try dsimp only
    cases h0 : Nat.beq a 3012 with
    | true =>
      rw [h0] at hr
      cases hr
      exact ⟨rfl, hi⟩
    | false =>
      rw [h0] at hr
      cases h1 : Nat.beq a 3013 with
      | false => rw [h1] at hr; cases hr
      | true =>
        rw [h1] at hr
        cases hr
        exact ⟨rfl, hi⟩
  · cases hr
theorem fr_kald : px_fr px_kald := by
  intro b X cb cb' _ pc lv st h r hi hr
  unfold px_kald at hr ⊢
  split at hr
  · next i a r0 =>
    try dsimp only
    cases hc : px_inb i 6 with
    | false => rw [hc] at hr; cases hr
    | true =>
      rw [hc] at hr
      cases h0 : Nat.beq a 3000 with
      | true =>
        rw [h0] at hr
        cases hr
        exact ⟨rfl, hi⟩
      | false =>
        rw [h0] at hr
        cases h1 : Nat.beq a 3001 with
        | false => rw [h1] at hr; cases hr
        | true =>
          rw [h1] at hr
          cases hr
          exact ⟨rfl, hi⟩
  · cases hr
theorem fr_getf {ci k : Nat} : px_fr (px_getf ci k) := by
  intro b X cb cb' _ pc lv st h r hi hr
  unfold px_getf at hr ⊢
  split at hr
  · next a r0 =>
    split at hr
    · next cj fs hcell =>
      try dsimp only
      rw [px_lf_cell hi hcell]
      cases hb : Nat.beq cj ci with
      | false => rw [hb] at hr; cases hr
      | true =>
        rw [hb] at hr
        dsimp only [cond] at hr
        split at hr
        · next v hv =>
          cases hr
          try dsimp only
          rw [hb, hv]
          exact ⟨rfl, hi⟩
        · cases hr
    · cases hr
  · cases hr
theorem fr_putf {z : Bool} {ci k : Nat} : px_fr (px_putf z ci k) := by
  intro b X cb cb' _ pc lv st h r hi hr
  unfold px_putf at hr ⊢
  split at hr
  · next x a r0 =>
    split at hr
    · next cj fs hcell =>
      try dsimp only
      rw [px_lf_cell hi hcell]
      cases hb : (Nat.beq cj ci && Nat.blt k fs.length && (z || x == 0 || x == 1)) with
      | false => rw [hb] at hr; cases hr
      | true =>
        rw [hb] at hr
        cases hr
        obtain ⟨e1, e2⟩ := px_lf_put (X := X) (.inr (cj, px_stn fs k (.int x))) hi hcell
        try dsimp only
        rw [hb, e1]
        exact ⟨rfl, e2⟩
    · cases hr
  · cases hr
theorem fr_iald : px_fr px_iald := by
  intro b X cb cb' _ pc lv st h r hi hr
  unfold px_iald at hr ⊢
  split at hr
  · next i a r0 =>
    split at hr
    · next n f ha =>
      try dsimp only
      rw [px_lf_arr hi ha]
      cases hb : px_inb i n with
      | false => rw [hb] at hr; cases hr
      | true =>
        rw [hb] at hr
        cases hr
        try dsimp only
        rw [hb]
        exact ⟨rfl, hi⟩
    · cases hr
  · cases hr
theorem fr_iast : px_fr px_iast := by
  intro b X cb cb' _ pc lv st h r hi hr
  unfold px_iast at hr ⊢
  split at hr
  · next x i a r0 =>
    split at hr
    · next n f ha =>
      try dsimp only
      rw [px_lf_arr hi ha]
      cases hb : px_inb i n with
      | false => rw [hb] at hr; cases hr
      | true =>
        rw [hb] at hr
        cases hr
        obtain ⟨e1, e2⟩ := px_lf_put (X := X) (.inl (0, n, .inl (upd f i.toNatClampNeg x))) hi (px_arr_r ha)
        try dsimp only
        rw [hb, e1]
        exact ⟨rfl, e2⟩
    · cases hr
  · cases hr
theorem fr_aald : px_fr px_aald := by
  intro b X cb cb' _ pc lv st h r hi hr
  unfold px_aald at hr ⊢
  split at hr
  · next i a r0 =>
    split at hr
    · next t n f ha =>
      try dsimp only
      rw [px_lf_cell hi ha]
      cases hb : (Nat.beq t 1 && px_inb i n) with
      | false => rw [hb] at hr; cases hr
      | true =>
        rw [hb] at hr
        dsimp only [cond] at hr
        split at hr
        · next k hk =>
          cases hr
          try dsimp only
          rw [hb, hk]
          exact ⟨rfl, hi⟩
        · next hk =>
          cases hr
          try dsimp only
          rw [hb, hk]
          exact ⟨rfl, hi⟩
    · cases hr
  · cases hr
theorem fr_alen : px_fr px_alen := by
  intro b X cb cb' _ pc lv st h r hi hr
  unfold px_alen at hr ⊢
  split at hr
  · next a r0 =>
    split at hr
    · next t n f ha =>
      try dsimp only
      rw [px_lf_cell hi ha]
      cases hb : Nat.beq t 0 with
      | false => rw [hb] at hr; cases hr
      | true =>
        rw [hb] at hr
        cases hr
        try dsimp only
        rw [hb]
        exact ⟨rfl, hi⟩
    · next t n f ha =>
      try dsimp only
      rw [px_lf_cell hi ha]
      cases hb : Nat.beq t 1 with
      | false => rw [hb] at hr; cases hr
      | true =>
        rw [hb] at hr
        cases hr
        try dsimp only
        rw [hb]
        exact ⟨rfl, hi⟩
    · cases hr
  · cases hr
theorem px_lf_isO {b : Option Bool} {X : List va_E} {h : px_H} {q ci : Nat} (hi : px_inv b h) (hq : px_isO h q ci = true) : px_isO (px_lf b X h) q ci = true := by
  obtain ⟨fs, hc⟩ := px_isO_r hq
  have h1 := px_lf_cell (X := X) hi hc
  unfold px_isO
  rw [h1]
  exact Nat.beq_refl ci
theorem fr_callV {j n ci : Nat} : px_fr (px_callV j n ci) := by
  intro b X cb cb' hcb pc lv st h r hi hr
  unfold px_callV at hr ⊢
  split at hr
  · next q as rest hpop =>
    cases hc : (px_isO h q ci && Nat.ble (px_cat rest) 8) with
    | false => rw [hc] at hr; cases hr
    | true =>
      rw [hc] at hr
      dsimp only [cond] at hr
      rw [Bool.and_eq_true] at hc
      split at hr
      · next v h' hcall =>
        cases hr
        obtain ⟨e1, e2⟩ := hcb j (.ref q :: as) h v h' hi hcall
        try rw [hpop]
        try dsimp only
        rw [px_lf_isO hi hc.1, hc.2, e1]
        exact ⟨rfl, e2⟩
      · cases hr
  · cases hr
theorem fr_callK {j n : Nat} : px_fr (px_callK j n) := by
  intro b X cb cb' hcb pc lv st h r hi hr
  unfold px_callK at hr ⊢
  split at hr
  · next q as rest hpop =>
    cases hc : (px_isK q && Nat.ble (px_cat rest) 8) with
    | false => rw [hc] at hr; cases hr
    | true =>
      rw [hc] at hr
      dsimp only [cond] at hr
      rw [Bool.and_eq_true] at hc
      split at hr
      · next v h' hcall =>
        cases hr
        obtain ⟨e1, e2⟩ := hcb j (.ref q :: as) h v h' hi hcall
        try rw [hpop]
        try dsimp only
        first | rw [hc.1, hc.2, e1] | rw [e1]
        exact ⟨rfl, e2⟩
      · cases hr
  · cases hr
theorem fr_callS {j n : Nat} : px_fr (px_callS j n) := by
  intro b X cb cb' hcb pc lv st h r hi hr
  unfold px_callS at hr ⊢
  split at hr
  · next as rest hpop =>
    cases hc : Nat.ble (px_cat rest) 8 with
    | false => rw [hc] at hr; cases hr
    | true =>
      rw [hc] at hr
      dsimp only [cond] at hr
      split at hr
      · next v h' hcall =>
        cases hr
        obtain ⟨e1, e2⟩ := hcb j as h v h' hi hcall
        try rw [hpop]
        try dsimp only
        first | rw [hc, e1] | rw [e1]
        exact ⟨rfl, e2⟩
      · cases hr
  · cases hr
theorem fr_acopy : px_fr px_acopy := by
  intro b X cb cb' _ pc lv st h r hi hr
  unfold px_acopy at hr ⊢
  split at hr
  · next n dp q sp a r0 =>
    split at hr
    · next n0 f n1 g ha hb =>
      try dsimp only
      rw [px_lf_arr hi ha, px_lf_arr hi hb]
      try dsimp only
      cases hc : (decide (0 ≤ sp) && decide (0 ≤ dp) && decide (0 ≤ n) && Nat.ble (sp.toNatClampNeg + n.toNatClampNeg) n0 && Nat.ble (dp.toNatClampNeg + n.toNatClampNeg) n1 && Nat.ble (px_cat r0) 8) with
      | false => rw [hc] at hr; cases hr
      | true =>
        rw [hc] at hr
        cases hr
        obtain ⟨e1, e2⟩ := px_lf_put (X := X) (.inl (0, n1, .inl (va_cpy f g sp.toNatClampNeg dp.toNatClampNeg n.toNatClampNeg))) hi (px_arr_r hb)
        rw [e1]
        exact ⟨rfl, e2⟩
    · cases hr
  · cases hr
def px_frT (code : Nat → Option px_A) : Prop := ∀ (pc : Nat) (act : px_A), code pc = some act → px_fr act
/-- a method's table: machine and frame -/
def px_okF (mm : Nat → Option px_M) (own : String) (cc : ByteArray) (nL : Nat) (ret : Option FieldType) (code : Nat → Option px_A) : Prop := px_okT mm own cc nL ret code ∧ px_frT code
section PXF
variable {mm : Nat → Option px_M} {own : String} {cc : ByteArray} {nL : Nat} {ret : Option FieldType}
theorem okF_node {k : Nat} {a b : Nat → Option px_A} (ha : px_okF mm own cc nL ret a) (hb : px_okF mm own cc nL ret b) : px_okF mm own cc nL ret (px_node k a b) := by
  refine ⟨okT_node ha.1 hb.1, fun pc act h => ?_⟩
  unfold px_node at h
  cases hc : Nat.blt pc k with
  | true => rw [hc] at h; exact ha.2 pc act h
  | false => rw [hc] at h; exact hb.2 pc act h
theorem okF_leaf {k : Nat} {a : px_A} (ha : px_ok mm own cc nL ret k a) (hf : px_fr a) : px_okF mm own cc nL ret (px_leaf k a) := by
  refine ⟨okT_leaf ha, fun pc act h => ?_⟩
  unfold px_leaf at h
  cases hc : Nat.beq pc k with
  | true => rw [hc] at h; cases h; exact hf
  | false => rw [hc] at h; cases h
end PXF
theorem px_fr_loop {b : Option Bool} {X : List va_E} {cb cb' : px_C} {code : Nat → Option px_A} (hT : px_frT code) (hcb : px_frC b X cb cb') : ∀ (n n' pc : Nat) (lv : px_L) (st : List Value) (h : px_H) (v : Option Value) (h' : px_H), n ≤ n' → px_inv b h → px_loop cb code n pc lv st h = some (v, h') → px_loop cb' code n' pc lv st (px_lf b X h) = some (v, px_lf b X h') ∧ px_inv b h'
  | 0, _, _, _, _, _, _, _, _, _, hr => by cases hr
  | n + 1, 0, _, _, _, _, _, _, hn, _, _ => absurd hn (by omega)
  | n + 1, n' + 1, pc, lv, st, h, v, h', hn, hi, hr => by
    unfold px_loop at hr ⊢
    split at hr
    · cases hr
    · next act hact =>
      try rw [hact]
      try dsimp only
      split at hr
      · cases hr
      · next pc' lv' st' h1 hs =>
        obtain ⟨e1, e2⟩ := hT pc act hact b X cb cb' hcb pc lv st h _ hi hs
        rw [e1]
        exact px_fr_loop hT hcb n n' pc' lv' st' h1 v h' (Nat.le_of_succ_le_succ hn) e2 hr
      · next r hs =>
        cases hr
        obtain ⟨e1, e2⟩ := hT pc act hact b X cb cb' hcb pc lv st h _ hi hs
        rw [e1]
        exact ⟨rfl, e2⟩
theorem px_fr_run {b : Option Bool} {X : List va_E} {codes : Nat → Option (Nat × (Nat → Option px_A))} (hC : ∀ j q, codes j = some q → px_frT q.2) : ∀ d d' n n', d ≤ d' → n ≤ n' → px_frC b X (px_run codes d n) (px_run codes d' n')
  | 0, _, _, _, _, _ => fun _ _ _ _ _ _ hr => by cases hr
  | d + 1, 0, _, _, hd, _ => absurd hd (by omega)
  | d + 1, d' + 1, n, n', hd, hn => fun j as h v h' hi hr => by
    have ih := px_fr_run (b := b) (X := X) hC d d' n n' (Nat.le_of_succ_le_succ hd) hn
    unfold px_run at hr ⊢
    split at hr
    · cases hr
    · next q hq =>
      try rw [hq]
      try dsimp only
      cases hb : Nat.ble (px_cat as) q.1 with
      | false => rw [hb] at hr; cases hr
      | true =>
        rw [hb] at hr
        exact px_fr_loop (hC j q hq) ih n n' 0 _ [] h v h' hn hi hr
