/-! WHAT A PURE STEP SAYS OF THE MACHINE -/
def px_mv (ad : Nat → Nat) : Value → Value
  | .ref k => .ref (ad k)
  | v => v
def px_mlf (ad : Nat → Nat) : Nat → px_L → List (Nat × Value)
  | _, [] => []
  | n, none :: r => px_mlf ad (n + 1) r
  | n, some v :: r => (n, px_mv ad v) :: px_mlf ad (n + 1) r
def px_ml (ad : Nat → Nat) (lv : px_L) : List (Nat × Value) := px_mlf ad 0 lv
abbrev px_ms (ad : Nat → Nat) (st : List Value) : List Value := st.map (px_mv ad)
def px_mx4 (ad : Nat → Nat) : vp_A → vp_A
  | (n, .inr (.inr (.inr (.inr f)))) => (n, .inr (.inr (.inr (.inr (fun j => (f j).map ad)))))
  | x => x
def px_me (tc : Nat → ClassId) (ad : Nat → Nat) : va_E → va_E
  | .inr (ci, fs) => .inr (ci, fs.map (px_mv ad))
  | .inl (t, x) => .inl (tc t, px_mx4 ad x)
def px_mi (tc : Nat → ClassId) (ad : Nat → Nat) : Nat → List va_E → va_W
  | _, [] => []
  | n, e :: r => (ad n, px_me tc ad e) :: px_mi tc ad (n + 1) r
def px_ws (tc : Nat → ClassId) (ad : Nat → Nat) (h : px_H) : va_W := px_mi tc ad 0 h.1 ++ px_mi tc ad 1000 h.2
def px_pl (h : px_H) (k : Nat) : Nat := cond (Nat.blt k 1000) k (h.1.length + (k - 1000))
theorem px_blt {a b : Nat} : Nat.blt a b = true ↔ a < b := by unfold Nat.blt; exact ⟨fun h => Nat.le_of_ble_eq_true h, fun h => Nat.ble_eq_true_of_le h⟩
theorem px_blt_f {a b : Nat} : Nat.blt a b = false ↔ b ≤ a := by
  constructor
  · intro h
    rcases Nat.lt_or_ge a b with q | q
    · rw [px_blt.mpr q] at h; cases h
    · exact q
  · intro h
    cases hb : Nat.blt a b with
    | false => rfl
    | true => exact absurd (px_blt.mp hb) (by omega)
theorem px_mi_len (tc : Nat → ClassId) (ad : Nat → Nat) : ∀ (l : List va_E) (n : Nat), (px_mi tc ad n l).length = l.length
  | [], _ => rfl
  | _ :: r, n => by simp [px_mi, px_mi_len tc ad r (n + 1)]
theorem px_mi_get (tc : Nat → ClassId) (ad : Nat → Nat) : ∀ (l : List va_E) (n k : Nat) (e : va_E), px_nth l k = some e → (px_mi tc ad n l)[k]? = some (ad (n + k), px_me tc ad e)
  | [], _, _, _, h => by cases h
  | a :: r, n, 0, e, h => by cases h; rfl
  | a :: r, n, k + 1, e, h => by
    show (px_mi tc ad (n + 1) r)[k]? = _
    rw [px_mi_get tc ad r (n + 1) k e h, show n + 1 + k = n + (k + 1) by omega]
theorem px_mi_set (tc : Nat → ClassId) (ad : Nat → Nat) : ∀ (l : List va_E) (n k : Nat) (e : va_E), (px_mi tc ad n l).set k (ad (n + k), px_me tc ad e) = px_mi tc ad n (px_stn l k e)
  | [], _, _, _ => rfl
  | a :: r, n, 0, e => rfl
  | a :: r, n, k + 1, e => by
    show (ad n, px_me tc ad a) :: (px_mi tc ad (n + 1) r).set k _ = _
    rw [show n + (k + 1) = n + 1 + k by omega, px_mi_set tc ad r (n + 1) k e]
    rfl
theorem px_stn_len {α : Type} : ∀ (l : List α) (k : Nat) (e : α), (px_stn l k e).length = l.length
  | [], _, _ => rfl
  | _ :: _, 0, _ => rfl
  | _ :: r, k + 1, e => by simp [px_stn, px_stn_len r k e]
theorem px_stn_set {α : Type} : ∀ (l : List α) (k : Nat) (e : α), px_stn l k e = l.set k e
  | [], _, _ => rfl
  | _ :: _, 0, _ => rfl
  | _ :: r, k + 1, e => by simp [px_stn, px_stn_set r k e]
theorem px_nth_lt {α : Type} : ∀ (l : List α) (k : Nat) (e : α), px_nth l k = some e → k < l.length
  | [], _, _, h => by cases h
  | _ :: _, 0, _, _ => Nat.succ_pos _
  | _ :: r, k + 1, e, h => Nat.succ_lt_succ (px_nth_lt r k e h)
theorem px_nth_get {α : Type} : ∀ (l : List α) (k : Nat), px_nth l k = l[k]?
  | [], _ => rfl
  | _ :: _, 0 => rfl
  | _ :: r, k + 1 => by simp [px_nth, px_nth_get r k]
theorem px_ws_get (tc : Nat → ClassId) (ad : Nat → Nat) {h : px_H} {k : Nat} {e : va_E} (hc : px_cell h k = some e) : (px_ws tc ad h)[px_pl h k]? = some (ad k, px_me tc ad e) := by
  unfold px_cell at hc
  unfold px_ws px_pl
  cases hb : Nat.blt k 1000 with
  | true =>
    rw [hb] at hc
    have hl := px_nth_lt _ _ _ hc
    rw [List.getElem?_append_left (by rw [px_mi_len]; exact hl)]
    have := px_mi_get tc ad h.1 0 k e hc
    rwa [Nat.zero_add] at this
  | false =>
    rw [hb] at hc
    have h1 := px_blt_f.mp hb
    show (px_mi tc ad 0 h.1 ++ px_mi tc ad 1000 h.2)[h.1.length + (k - 1000)]? = _
    rw [List.getElem?_append_right (by rw [px_mi_len]; omega), px_mi_len, Nat.add_sub_cancel_left, px_mi_get tc ad h.2 1000 (k - 1000) e hc, show 1000 + (k - 1000) = k by omega]
theorem px_ws_set (tc : Nat → ClassId) (ad : Nat → Nat) {h : px_H} {k : Nat} {e0 : va_E} (e : va_E) (hc : px_cell h k = some e0) : (px_ws tc ad h).set (px_pl h k) (ad k, px_me tc ad e) = px_ws tc ad (px_put h k e) := by
  unfold px_cell at hc
  unfold px_ws px_pl px_put
  cases hb : Nat.blt k 1000 with
  | true =>
    rw [hb] at hc
    have hl := px_nth_lt _ _ _ hc
    show (px_mi tc ad 0 h.1 ++ px_mi tc ad 1000 h.2).set k _ = px_mi tc ad 0 (px_stn h.1 k e) ++ px_mi tc ad 1000 h.2
    rw [List.set_append_left _ _ (by rw [px_mi_len]; exact hl)]
    have := px_mi_set tc ad h.1 0 k e
    rw [Nat.zero_add] at this
    rw [this]
  | false =>
    have h1 := px_blt_f.mp hb
    show (px_mi tc ad 0 h.1 ++ px_mi tc ad 1000 h.2).set (h.1.length + (k - 1000)) _ = px_mi tc ad 0 h.1 ++ px_mi tc ad 1000 (px_stn h.2 (k - 1000) e)
    rw [List.set_append_right _ _ (by rw [px_mi_len]; omega), px_mi_len, Nat.add_sub_cancel_left]
    have := px_mi_set tc ad h.2 1000 (k - 1000) e
    rw [show 1000 + (k - 1000) = k by omega] at this
    rw [this]
theorem px_mlf_mem (ad : Nat → Nat) : ∀ (lv : px_L) (n : Nat) (q : Nat × Value), q ∈ px_mlf ad n lv ↔ ∃ (k : Nat) (v : Value), px_get lv k = some v ∧ q = (n + k, px_mv ad v)
  | [], n, q => ⟨fun h => absurd h List.not_mem_nil, fun ⟨_, _, h, _⟩ => by cases h⟩
  | none :: r, n, q => by
    show q ∈ px_mlf ad (n + 1) r ↔ _
    rw [px_mlf_mem ad r (n + 1) q]
    constructor
    · rintro ⟨k, v, h1, h2⟩
      exact ⟨k + 1, v, h1, by rw [h2, show n + 1 + k = n + (k + 1) by omega]⟩
    · rintro ⟨k, v, h1, h2⟩
      cases k with
      | zero => cases h1
      | succ k => exact ⟨k, v, h1, by rw [h2, show n + 1 + k = n + (k + 1) by omega]⟩
  | some w :: r, n, q => by
    show q ∈ (n, px_mv ad w) :: px_mlf ad (n + 1) r ↔ _
    rw [List.mem_cons, px_mlf_mem ad r (n + 1) q]
    constructor
    · rintro (h | ⟨k, v, h1, h2⟩)
      · exact ⟨0, w, rfl, h⟩
      · exact ⟨k + 1, v, h1, by rw [h2, show n + 1 + k = n + (k + 1) by omega]⟩
    · rintro ⟨k, v, h1, h2⟩
      cases k with
      | zero => cases h1; exact Or.inl h2
      | succ k => exact Or.inr ⟨k, v, h1, by rw [h2, show n + 1 + k = n + (k + 1) by omega]⟩
theorem px_get_mem (ad : Nat → Nat) (lv : px_L) (i : Nat) (v : Value) (h : px_get lv i = some v) : ∃ k : Nat, (px_ml ad lv)[k]? = some (i, px_mv ad v) :=
  List.getElem?_of_mem ((px_mlf_mem ad lv 0 _).mpr ⟨i, v, h, by rw [Nat.zero_add]⟩)
theorem px_c2_mv (ad : Nat → Nat) (v : Value) : ((px_mv ad v).category == 2) = px_c2 v := by cases v <;> rfl
theorem px_set_get : ∀ (lv : px_L) (i : Nat) (v : Value) (k : Nat) (w : Value), px_get (px_set lv i v) k = some w → (k = i ∧ w = v) ∨ (k ≠ i ∧ px_get lv k = some w ∧ ¬ (k + 1 = i ∧ px_c2 w = true))
  | [], _, _, _, _, h => by cases h
  | o :: r, 0, v, 0, w, h => by cases h; exact Or.inl ⟨rfl, rfl⟩
  | o :: r, 0, v, k + 1, w, h => Or.inr ⟨by omega, h, by omega⟩
  | o :: r, n + 1, v, 0, w, h => by
    refine Or.inr ⟨by omega, ?_⟩
    have h : cond (Nat.beq n 0) (px_kl o) o = some w := h
    cases hb : Nat.beq n 0 with
    | false =>
      rw [hb] at h
      refine ⟨h, fun q => ?_⟩
      have e : n = 0 := by omega
      rw [e] at hb
      cases hb
    | true =>
      rw [hb] at h
      have h : px_kl o = some w := h
      cases o with
      | none => cases h
      | some z => cases z <;> first | (cases h; exact ⟨rfl, fun q => by cases q.2⟩) | cases h
  | o :: r, n + 1, v, k + 1, w, h => by
    rcases px_set_get r n v k w h with ⟨e1, e2⟩ | ⟨e1, e2, e3⟩
    · exact Or.inl ⟨by omega, e2⟩
    · exact Or.inr ⟨by omega, e2, fun q => e3 ⟨by omega, q.2⟩⟩
theorem px_beq (a b : Nat) : (a == b) = Nat.beq a b := by
  rw [Bool.eq_iff_iff, beq_iff_eq]
  exact ⟨fun h => by rw [h]; exact Nat.beq_refl b, Nat.eq_of_beq_eq_true⟩
theorem px_has_le {ls : Array Slot} {n : Nat} {l l' : List (Nat × Value)} (h : lv_has ls n l) (hs : ∀ q ∈ l', q ∈ l) : lv_has ls n l' := ⟨h.1, h.2.1, fun q hq => h.2.2 q (hs q hq)⟩
theorem px_has_set {ad : Nat → Nat} {ls : Array Slot} {n i : Nat} {lv : px_L} {v : Value} (h : lv_has ls n ((i, px_mv ad v) :: (px_ml ad lv).filter (fun q => !(q.1 == i) && !(q.1 + 1 == i && q.2.category == 2)))) : lv_has ls n (px_ml ad (px_set lv i v)) := by
  refine px_has_le h (fun q hq => ?_)
  obtain ⟨k, w, h1, rfl⟩ := (px_mlf_mem ad _ 0 q).mp hq
  rw [Nat.zero_add]
  rcases px_set_get lv i v k w h1 with ⟨e1, e2⟩ | ⟨e1, e2, e3⟩
  · subst e1; subst e2
    exact List.mem_cons_self
  · refine List.mem_cons_of_mem _ (List.mem_filter.mpr ⟨(px_mlf_mem ad lv 0 _).mpr ⟨k, w, e2, by rw [Nat.zero_add]⟩, ?_⟩)
    show (!(k == i) && !(k + 1 == i && (px_mv ad w).category == 2)) = true
    rw [px_c2_mv, px_beq, px_beq]
    cases hb : Nat.beq k i with
    | true => exact absurd (Nat.eq_of_beq_eq_true hb) e1
    | false =>
      cases hc : Nat.beq (k + 1) i with
      | false => rfl
      | true =>
        cases hd : px_c2 w with
        | false => rfl
        | true => exact absurd ⟨Nat.eq_of_beq_eq_true hc, hd⟩ e3
theorem px_cat_ms (ad : Nat → Nat) : ∀ st : List Value, ((px_ms ad st).map fun v => v.category).sum = px_cat st
  | [] => rfl
  | v :: r => by
    have h : (px_mv ad v).category = v.category := by cases v <;> rfl
    show (px_mv ad v).category + ((px_ms ad r).map fun v => v.category).sum = v.category + px_cat r
    rw [h, px_cat_ms ad r]
theorem px_pop_eq : ∀ (n : Nat) (st acc l rest : List Value), px_pop n st acc = some (l, rest) → ∃ t : List Value, t.length = n ∧ st = t ++ rest ∧ l = t.reverse ++ acc
  | 0, st, acc, l, rest, h => by cases h; exact ⟨[], rfl, rfl, rfl⟩
  | n + 1, [], acc, l, rest, h => by cases h
  | n + 1, v :: st, acc, l, rest, h => by
    obtain ⟨t, h1, h2, h3⟩ := px_pop_eq n st (v :: acc) l rest h
    exact ⟨v :: t, by simp [h1], by simp [h2], by simp [h3]⟩
theorem px_nones_mem (ad : Nat → Nat) : ∀ (n i : Nat), px_mlf ad i (px_nones n) = []
  | 0, _ => rfl
  | n + 1, i => px_nones_mem ad n (i + 1)
theorem px_args_mem (ad : Nat → Nat) : ∀ (as : List Value) (n i : Nat) (q : Nat × Value), q ∈ px_mlf ad i (px_args n as) → q ∈ lv_args i (px_ms ad as)
  | [], n, i, q, h => by
    rw [show px_args n [] = px_nones n from by cases n <;> rfl, px_nones_mem] at h
    exact absurd h List.not_mem_nil
  | v :: r, n, i, q, h => by
    have hc : (px_mv ad v).category = v.category := by cases v <;> rfl
    show q ∈ (i, px_mv ad v) :: lv_args (if (px_mv ad v).category = 2 then i + 2 else i + 1) (px_ms ad r)
    rw [hc]
    cases v <;> (rcases List.mem_cons.mp h with h | h <;> first | (rw [h]; exact List.mem_cons_self) | exact List.mem_cons_of_mem _ (px_args_mem ad r _ _ q h))
theorem px_has_args {ad : Nat → Nat} {ls : Array Slot} {n m : Nat} {as : List Value} (h : lv_has ls n (lv_args 0 (px_ms ad as))) : lv_has ls n (px_ml ad (px_args m as)) := px_has_le h (fun q hq => px_args_mem ad as m 0 q hq)
theorem px_sl_len (ad : Nat → Nat) : ∀ as : List Value, (lg_sl (px_ms ad as)).length = px_cat as
  | [] => rfl
  | v :: r => by
    have ih := px_sl_len ad r
    have e : lg_sl (px_ms ad (v :: r)) = (if (px_mv ad v).category = 2 then [Slot.val (px_mv ad v), .second] else [.val (px_mv ad v)]) ++ lg_sl (px_ms ad r) := rfl
    rw [e, List.length_append, ih]
    cases v <;> rfl
