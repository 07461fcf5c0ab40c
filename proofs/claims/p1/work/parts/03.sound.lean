/-! WHAT A PURE STEP SAYS OF THE MACHINE -/
def px_mv (ad : Nat → Nat) : Value → Value
  | .ref k => .ref (ad k)
  | v => v
def px_ml (ad : Nat → Nat) (lv : px_L) : px_L := lv.map fun q => (q.1, px_mv ad q.2)
abbrev px_ms (ad : Nat → Nat) (st : List Value) : List Value := st.map (px_mv ad)
def px_mx4 (ad : Nat → Nat) : vp_A → vp_A
  | (n, .inr (.inr (.inr (.inr f)))) => (n, .inr (.inr (.inr (.inr (fun j => (f j).map ad)))))
  | x => x
def px_me (tc : Nat → ClassId) (ad : Nat → Nat) : va_E → va_E
  | .inr (ci, fs) => .inr (ci, fs.map (px_mv ad))
  | .inl (t, x) => .inl (tc t, px_mx4 ad x)
def px_mi (tc : Nat → ClassId) (ad : Nat → Nat) : Nat → List va_E → va_W
  | _, [] => []
  | n, e :: r => (ad n, px_me tc ad e) :: px_mi tc ad (n + 1) r
def px_ws (tc : Nat → ClassId) (ad : Nat → Nat) (h : px_H) : va_W := px_mi tc ad 0 h.1 ++ px_mi tc ad 1000 h.2
def px_pl (h : px_H) (k : Nat) : Nat := cond (Nat.blt k 1000) k (h.1.length + (k - 1000))
theorem px_blt {a b : Nat} : Nat.blt a b = true ↔ a < b := by unfold Nat.blt; exact ⟨fun h => Nat.le_of_ble_eq_true h, fun h => Nat.ble_eq_true_of_le h⟩
theorem px_blt_f {a b : Nat} : Nat.blt a b = false ↔ b ≤ a := by
  constructor
  · intro h
    rcases Nat.lt_or_ge a b with q | q
    · rw [px_blt.mpr q] at h; cases h
    · exact q
  · intro h
    cases hb : Nat.blt a b with
    | false => rfl
    | true => exact absurd (px_blt.mp hb) (by omega)
theorem px_mi_len (tc : Nat → ClassId) (ad : Nat → Nat) : ∀ (l : List va_E) (n : Nat), (px_mi tc ad n l).length = l.length
  | [], _ => rfl
  | _ :: r, n => by simp [px_mi, px_mi_len tc ad r (n + 1)]
theorem px_mi_get (tc : Nat → ClassId) (ad : Nat → Nat) : ∀ (l : List va_E) (n k : Nat) (e : va_E), px_nth l k = some e → (px_mi tc ad n l)[k]? = some (ad (n + k), px_me tc ad e)
  | [], _, _, _, h => by cases h
  | a :: r, n, 0, e, h => by cases h; rfl
  | a :: r, n, k + 1, e, h => by
    show (px_mi tc ad (n + 1) r)[k]? = _
    rw [px_mi_get tc ad r (n + 1) k e h, show n + 1 + k = n + (k + 1) by omega]
theorem px_mi_set (tc : Nat → ClassId) (ad : Nat → Nat) : ∀ (l : List va_E) (n k : Nat) (e : va_E), (px_mi tc ad n l).set k (ad (n + k), px_me tc ad e) = px_mi tc ad n (px_stn l k e)
  | [], _, _, _ => rfl
  | a :: r, n, 0, e => rfl
  | a :: r, n, k + 1, e => by
    show (ad n, px_me tc ad a) :: (px_mi tc ad (n + 1) r).set k _ = _
    rw [show n + (k + 1) = n + 1 + k by omega, px_mi_set tc ad r (n + 1) k e]
    rfl
theorem px_stn_len {α : Type} : ∀ (l : List α) (k : Nat) (e : α), (px_stn l k e).length = l.length
  | [], _, _ => rfl
  | _ :: _, 0, _ => rfl
  | _ :: r, k + 1, e => by simp [px_stn, px_stn_len r k e]
theorem px_stn_set {α : Type} : ∀ (l : List α) (k : Nat) (e : α), px_stn l k e = l.set k e
  | [], _, _ => rfl
  | _ :: _, 0, _ => rfl
  | _ :: r, k + 1, e => by simp [px_stn, px_stn_set r k e]
theorem px_nth_lt {α : Type} : ∀ (l : List α) (k : Nat) (e : α), px_nth l k = some e → k < l.length
  | [], _, _, h => by cases h
  | _ :: _, 0, _, _ => Nat.succ_pos _
  | _ :: r, k + 1, e, h => Nat.succ_lt_succ (px_nth_lt r k e h)
theorem px_nth_get {α : Type} : ∀ (l : List α) (k : Nat), px_nth l k = l[k]?
  | [], _ => rfl
  | _ :: _, 0 => rfl
  | _ :: r, k + 1 => by simp [px_nth, px_nth_get r k]
theorem px_ws_get (tc : Nat → ClassId) (ad : Nat → Nat) {h : px_H} {k : Nat} {e : va_E} (hc : px_cell h k = some e) : (px_ws tc ad h)[px_pl h k]? = some (ad k, px_me tc ad e) := by
  unfold px_cell at hc
  unfold px_ws px_pl
  cases hb : Nat.blt k 1000 with
  | true =>
    rw [hb] at hc
    have hl := px_nth_lt _ _ _ hc
    rw [List.getElem?_append_left (by rw [px_mi_len]; exact hl)]
    have := px_mi_get tc ad h.1 0 k e hc
    rwa [Nat.zero_add] at this
  | false =>
    rw [hb] at hc
    have h1 := px_blt_f.mp hb
    show (px_mi tc ad 0 h.1 ++ px_mi tc ad 1000 h.2)[h.1.length + (k - 1000)]? = _
    rw [List.getElem?_append_right (by rw [px_mi_len]; omega), px_mi_len, Nat.add_sub_cancel_left, px_mi_get tc ad h.2 1000 (k - 1000) e hc, show 1000 + (k - 1000) = k by omega]
theorem px_ws_set (tc : Nat → ClassId) (ad : Nat → Nat) {h : px_H} {k : Nat} {e0 : va_E} (e : va_E) (hc : px_cell h k = some e0) : (px_ws tc ad h).set (px_pl h k) (ad k, px_me tc ad e) = px_ws tc ad (px_put h k e) := by
  unfold px_cell at hc
  unfold px_ws px_pl px_put
  cases hb : Nat.blt k 1000 with
  | true =>
    rw [hb] at hc
    have hl := px_nth_lt _ _ _ hc
    show (px_mi tc ad 0 h.1 ++ px_mi tc ad 1000 h.2).set k _ = px_mi tc ad 0 (px_stn h.1 k e) ++ px_mi tc ad 1000 h.2
    rw [List.set_append_left _ _ (by rw [px_mi_len]; exact hl)]
    have := px_mi_set tc ad h.1 0 k e
    rw [Nat.zero_add] at this
    rw [this]
  | false =>
    have h1 := px_blt_f.mp hb
    show (px_mi tc ad 0 h.1 ++ px_mi tc ad 1000 h.2).set (h.1.length + (k - 1000)) _ = px_mi tc ad 0 h.1 ++ px_mi tc ad 1000 (px_stn h.2 (k - 1000) e)
    rw [List.set_append_right _ _ (by rw [px_mi_len]; omega), px_mi_len, Nat.add_sub_cancel_left]
    have := px_mi_set tc ad h.2 1000 (k - 1000) e
    rw [show 1000 + (k - 1000) = k by omega] at this
    rw [this]
theorem px_get_mem (ad : Nat → Nat) : ∀ (lv : px_L) (i : Nat) (v : Value), px_get lv i = some v → ∃ k : Nat, (px_ml ad lv)[k]? = some (i, px_mv ad v)
  | [], _, _, h => by cases h
  | q :: r, i, v, h => by
    unfold px_get at h
    cases hb : Nat.beq q.1 i with
    | true =>
      rw [hb] at h
      have hv : q.2 = v := Option.some.inj h
      refine ⟨0, ?_⟩
      show some (q.1, px_mv ad q.2) = _
      rw [hv, Nat.eq_of_beq_eq_true hb]
    | false =>
      rw [hb] at h
      obtain ⟨k, hk⟩ := px_get_mem ad r i v h
      exact ⟨k + 1, hk⟩
theorem px_c2_mv (ad : Nat → Nat) (v : Value) : ((px_mv ad v).category == 2) = px_c2 v := by cases v <;> rfl
theorem px_beq (a b : Nat) : (a == b) = Nat.beq a b := by
  rw [Bool.eq_iff_iff, beq_iff_eq]
  exact ⟨fun h => by rw [h]; exact Nat.beq_refl b, Nat.eq_of_beq_eq_true⟩
theorem px_drop_ml (ad : Nat → Nat) (i : Nat) : ∀ lv : px_L, (px_ml ad lv).filter (fun q => !(q.1 == i) && !(q.1 + 1 == i && q.2.category == 2)) = px_ml ad (px_drop lv i)
  | [] => rfl
  | q :: r => by
    have ih := px_drop_ml ad i r
    show List.filter _ ((q.1, px_mv ad q.2) :: px_ml ad r) = _
    rw [List.filter_cons, ih]
    show (if (!(q.1 == i) && !(q.1 + 1 == i && (px_mv ad q.2).category == 2)) = true then _ else _) = _
    rw [px_c2_mv, px_beq, px_beq]
    show _ = px_ml ad (cond (Nat.beq q.1 i || (Nat.beq (q.1 + 1) i && px_c2 q.2)) (px_drop r i) (q :: px_drop r i))
    cases Nat.beq q.1 i <;> cases (Nat.beq (q.1 + 1) i && px_c2 q.2) <;> rfl
theorem px_set_ml (ad : Nat → Nat) (lv : px_L) (i : Nat) (v : Value) : (i, px_mv ad v) :: (px_ml ad lv).filter (fun q => !(q.1 == i) && !(q.1 + 1 == i && q.2.category == 2)) = px_ml ad (px_set lv i v) := by
  rw [px_drop_ml]; rfl
theorem px_set_i (ad : Nat → Nat) (lv : px_L) (i : Nat) (x : Int32) : (i, Value.int x) :: (px_ml ad lv).filter (fun q => !(q.1 == i) && !(q.1 + 1 == i && q.2.category == 2)) = px_ml ad (px_set lv i (.int x)) := px_set_ml ad lv i (.int x)
theorem px_set_q (ad : Nat → Nat) (lv : px_L) (i : Nat) (x : Nat) : (i, Value.ref (ad x)) :: (px_ml ad lv).filter (fun q => !(q.1 == i) && !(q.1 + 1 == i && q.2.category == 2)) = px_ml ad (px_set lv i (.ref x)) := px_set_ml ad lv i (.ref x)
theorem px_set_n (ad : Nat → Nat) (lv : px_L) (i : Nat) : (i, Value.null) :: (px_ml ad lv).filter (fun q => !(q.1 == i) && !(q.1 + 1 == i && q.2.category == 2)) = px_ml ad (px_set lv i .null) := px_set_ml ad lv i .null
theorem px_cat_ms (ad : Nat → Nat) : ∀ st : List Value, ((px_ms ad st).map fun v => v.category).sum = px_cat st
  | [] => rfl
  | v :: r => by
    have h : (px_mv ad v).category = v.category := by cases v <;> rfl
    show (px_mv ad v).category + ((px_ms ad r).map fun v => v.category).sum = v.category + px_cat r
    rw [h, px_cat_ms ad r]
theorem px_pop_eq : ∀ (n : Nat) (st acc l rest : List Value), px_pop n st acc = some (l, rest) → ∃ t : List Value, t.length = n ∧ st = t ++ rest ∧ l = t.reverse ++ acc
  | 0, st, acc, l, rest, h => by cases h; exact ⟨[], rfl, rfl, rfl⟩
  | n + 1, [], acc, l, rest, h => by cases h
  | n + 1, v :: st, acc, l, rest, h => by
    obtain ⟨t, h1, h2, h3⟩ := px_pop_eq n st (v :: acc) l rest h
    exact ⟨v :: t, by simp [h1], by simp [h2], by simp [h3]⟩
theorem px_args_ml (ad : Nat → Nat) : ∀ (as : List Value) (i : Nat), lv_args i (px_ms ad as) = px_ml ad (lv_args i as)
  | [], _ => rfl
  | v :: r, i => by
    have h : (px_mv ad v).category = v.category := by cases v <;> rfl
    show (i, px_mv ad v) :: lv_args (if (px_mv ad v).category = 2 then i + 2 else i + 1) (px_ms ad r) = _
    rw [h, px_args_ml ad r]
    rfl
theorem px_sl_len (ad : Nat → Nat) : ∀ as : List Value, (lg_sl (px_ms ad as)).length = px_cat as
  | [] => rfl
  | v :: r => by
    have ih := px_sl_len ad r
    have e : lg_sl (px_ms ad (v :: r)) = (if (px_mv ad v).category = 2 then [Slot.val (px_mv ad v), .second] else [.val (px_mv ad v)]) ++ lg_sl (px_ms ad r) := rfl
    rw [e, List.length_append, ih]
    cases v <;> rfl
