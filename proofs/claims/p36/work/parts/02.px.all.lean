/-! part 02.px -/
section
/-! THE PURE MACHINE: steps of a method over a picture of the heap whose references are places; what it says holds of the machine (px_sound) -/
abbrev px_L : Type := List (Option Value)
abbrev px_H : Type := List va_E × List va_E
abbrev px_N : Type := (Nat × px_L × List Value × px_H) ⊕ (Option Value × px_H)
abbrev px_C : Type := Nat → List Value → px_H → Option (Option Value × px_H)
abbrev px_A : Type := px_C → Nat → px_L → List Value → px_H → Option px_N
def px_nth {α : Type} : List α → Nat → Option α
  | [], _ => none
  | a :: _, 0 => some a
  | _ :: r, n + 1 => px_nth r n
def px_stn {α : Type} : List α → Nat → α → List α
  | [], _, _ => []
  | _ :: r, 0, b => b :: r
  | a :: r, n + 1, b => a :: px_stn r n b
def px_get : px_L → Nat → Option Value
  | [], _ => none
  | o :: _, 0 => o
  | _ :: r, n + 1 => px_get r n
def px_c2 : Value → Bool
  | .long _ => true
  | .double _ => true
  | _ => false
/-- what is left of a place when the next one is stored to -/
def px_kl : Option Value → Option Value
  | some (.long _) => none
  | some (.double _) => none
  | o => o
def px_set : px_L → Nat → Value → px_L
  | [], _, _ => []
  | _ :: r, 0, v => some v :: r
  | o :: r, n + 1, v => cond (Nat.beq n 0) (px_kl o) o :: px_set r n v
def px_nones : Nat → px_L
  | 0 => []
  | n + 1 => none :: px_nones n
/-- a method's locals at its start -/
def px_args : Nat → List Value → px_L
  | n, [] => px_nones n
  | n, v :: r => cond (px_c2 v) (some v :: none :: px_args (n - 2) r) (some v :: px_args (n - 1) r)
def px_cell (h : px_H) (k : Nat) : Option va_E := cond (Nat.blt k 1000) (px_nth h.1 k) (px_nth h.2 (k - 1000))
def px_put (h : px_H) (k : Nat) (e : va_E) : px_H := cond (Nat.blt k 1000) (px_stn h.1 k e, h.2) (h.1, px_stn h.2 (k - 1000) e)
def px_inb (i : Int32) (n : Nat) : Bool := decide (0 ≤ i) && Nat.blt i.toNatClampNeg n
def px_cat : List Value → Nat
  | [] => 0
  | v :: r => v.category + px_cat r
def px_pop : Nat → List Value → List Value → Option (List Value × List Value)
  | 0, st, acc => some (acc, st)
  | _ + 1, [], _ => none
  | n + 1, v :: st, acc => px_pop n st (v :: acc)
def px_tl (v : Option Value) (rest : List Value) : List Value := match v with
  | some x => x :: rest
  | none => rest
-- the steps
def px_pushi (v : Int32) (n : Nat) : px_A := fun _ pc lv st h => some (.inl (pc + n, lv, .int v :: st, h))
def px_pushl (v : Int64) (n : Nat) : px_A := fun _ pc lv st h => some (.inl (pc + n, lv, .long v :: st, h))
def px_pushr (k n : Nat) : px_A := fun _ pc lv st h => some (.inl (pc + n, lv, .ref k :: st, h))
def px_pushn : px_A := fun _ pc lv st h => some (.inl (pc + 1, lv, .null :: st, h))
def px_ild (i n : Nat) : px_A := fun _ pc lv st h => match px_get lv i with
  | some (.int x) => some (.inl (pc + n, lv, .int x :: st, h))
  | _ => none
def px_lld (i n : Nat) : px_A := fun _ pc lv st h => match px_get lv i with
  | some (.long x) => some (.inl (pc + n, lv, .long x :: st, h))
  | _ => none
def px_ald (i n : Nat) : px_A := fun _ pc lv st h => match px_get lv i with
  | some (.ref x) => some (.inl (pc + n, lv, .ref x :: st, h))
  | some .null => some (.inl (pc + n, lv, .null :: st, h))
  | _ => none
def px_ist (i n : Nat) : px_A := fun _ pc lv st h => match st with
  | .int x :: r => some (.inl (pc + n, px_set lv i (.int x), r, h))
  | _ => none
def px_ast (i n : Nat) : px_A := fun _ pc lv st h => match st with
  | .ref x :: r => some (.inl (pc + n, px_set lv i (.ref x), r, h))
  | .null :: r => some (.inl (pc + n, px_set lv i .null, r, h))
  | _ => none
def px_iinc (i : Nat) (c : Int32) : px_A := fun _ pc lv st h => match px_get lv i with
  | some (.int x) => some (.inl (pc + 3, px_set lv i (.int (x + c)), st, h))
  | _ => none
def px_dup : px_A := fun _ pc lv st h => match st with
  | .int x :: r => some (.inl (pc + 1, lv, .int x :: .int x :: r, h))
  | .ref x :: r => some (.inl (pc + 1, lv, .ref x :: .ref x :: r, h))
  | _ => none
def px_dup2 : px_A := fun _ pc lv st h => match st with
  | .int x :: .ref y :: r => some (.inl (pc + 1, lv, .int x :: .ref y :: .int x :: .ref y :: r, h))
  | _ => none
def px_popi : px_A := fun _ pc lv st h => match st with
  | .int _ :: r => some (.inl (pc + 1, lv, r, h))
  | _ => none
def px_bin (f : Int32 → Int32 → Int32) : px_A := fun _ pc lv st h => match st with
  | .int y :: .int x :: r => some (.inl (pc + 1, lv, .int (f x y) :: r, h))
  | _ => none
def px_bin0 (f : Int32 → Int32 → Int32) : px_A := fun _ pc lv st h => match st with
  | .int y :: .int x :: r => cond (decide (y = 0)) none (some (.inl (pc + 1, lv, .int (f x y) :: r, h)))
  | _ => none
def px_un (f : Int32 → Int32) : px_A := fun _ pc lv st h => match st with
  | .int x :: r => some (.inl (pc + 1, lv, .int (f x) :: r, h))
  | _ => none
def px_i2l : px_A := fun _ pc lv st h => match st with
  | .int x :: r => some (.inl (pc + 1, lv, .long x.toInt64 :: r, h))
  | _ => none
def px_l2i : px_A := fun _ pc lv st h => match st with
  | .long x :: r => some (.inl (pc + 1, lv, .int x.toInt32 :: r, h))
  | _ => none
def px_lbin (f : Int64 → Int64 → Int64) : px_A := fun _ pc lv st h => match st with
  | .long y :: .long x :: r => some (.inl (pc + 1, lv, .long (f x y) :: r, h))
  | _ => none
def px_lsh (f : Int64 → Int32 → Int64) : px_A := fun _ pc lv st h => match st with
  | .int y :: .long x :: r => some (.inl (pc + 1, lv, .long (f x y) :: r, h))
  | _ => none
def px_goto (t : Nat) : px_A := fun _ _ lv st h => some (.inl (t, lv, st, h))
def px_if (f : Int32 → Bool) (t : Nat) : px_A := fun _ pc lv st h => match st with
  | .int x :: r => some (.inl (cond (f x) t (pc + 3), lv, r, h))
  | _ => none
def px_icmp (f : Int32 → Int32 → Bool) (t : Nat) : px_A := fun _ pc lv st h => match st with
  | .int y :: .int x :: r => some (.inl (cond (f x y) t (pc + 3), lv, r, h))
  | _ => none
def px_ifnull (t : Nat) : px_A := fun _ pc lv st h => match st with
  | .null :: r => some (.inl (t, lv, r, h))
  | .ref _ :: r => some (.inl (pc + 3, lv, r, h))
  | _ => none
def px_ifnn (t : Nat) : px_A := fun _ pc lv st h => match st with
  | .null :: r => some (.inl (pc + 3, lv, r, h))
  | .ref _ :: r => some (.inl (t, lv, r, h))
  | _ => none
def px_sw (lo : Int) (ts : List Nat) (d : Nat) (x : Int) : Nat := cond (decide (x < lo)) d (match px_nth ts (x - lo).toNat with
  | some t => t
  | none => d)
def px_tsw (lo : Int) (ts : List Nat) (d : Nat) : px_A := fun _ _ lv st h => match st with
  | .int x :: r => some (.inl (px_sw lo ts d x.toInt, lv, r, h))
  | _ => none
def px_lk : List (Int × Nat) → Nat → Int → Nat
  | [], d, _ => d
  | (a, t) :: r, d, k => cond (decide (a = k)) t (px_lk r d k)
def px_lsw (ps : List (Int × Nat)) (d : Nat) : px_A := fun _ _ lv st h => match st with
  | .int x :: r => some (.inl (px_lk ps d x.toInt, lv, r, h))
  | _ => none
def px_getf (ci k : Nat) : px_A := fun _ pc lv st h => match st with
  | .ref a :: r => match px_cell h a with
    | some (.inr (cj, fs)) => cond (Nat.beq cj ci) (match px_nth fs k with
      | some v => some (.inl (pc + 3, lv, v :: r, h))
      | none => none) none
    | _ => none
  | _ => none
def px_putf (z : Bool) (ci k : Nat) : px_A := fun _ pc lv st h => match st with
  | .int x :: .ref a :: r => match px_cell h a with
    | some (.inr (cj, fs)) => cond (Nat.beq cj ci && Nat.blt k fs.length && (z || x == 0 || x == 1)) (some (.inl (pc + 3, lv, r, px_put h a (.inr (cj, px_stn fs k (.int x)))))) none
    | _ => none
  | _ => none
def px_K0l : List Int32 := [100, 50, 0, -9, 1, 0]
def px_K1l : List Int32 := [4000, 200, 9, 9, 8, 1]
def px_K0 : Nat → Int32 := fun j => px_K0l.getD j 0
def px_K1 : Nat → Int32 := fun j => px_K1l.getD j 0
def px_arr (h : px_H) (a : Nat) : Option (Nat × (Nat → Int32)) := match px_cell h a with
  | some (.inl (t, n, .inl f)) => cond (Nat.beq t 0) (some (n, f)) none
  | _ => none
def px_iald : px_A := fun _ pc lv st h => match st with
  | .int i :: .ref a :: r => match px_arr h a with
    | some (n, f) => cond (px_inb i n) (some (.inl (pc + 1, lv, .int (f i.toNatClampNeg) :: r, h))) none
    | none => none
  | _ => none
def px_kald : px_A := fun _ pc lv st h => match st with
  | .int i :: .ref a :: r => cond (px_inb i 6) (cond (Nat.beq a 3000) (some (.inl (pc + 1, lv, .int (px_K0 i.toNatClampNeg) :: r, h))) (cond (Nat.beq a 3001) (some (.inl (pc + 1, lv, .int (px_K1 i.toNatClampNeg) :: r, h))) none)) none
  | _ => none
/-- the two texts of names: 3002, 3003; their rows of bytes: 3012, 3013 -/
def px_isK (a : Nat) : Bool := Nat.beq a 3002 || Nat.beq a 3003
def px_K2l : List Int32 := [99, 116, 119]
def px_K3l : List Int32 := [104, 110, 107]
def px_K2 : Nat → Int32 := fun j => px_K2l.getD j 0
def px_K3 : Nat → Int32 := fun j => px_K3l.getD j 0
def px_strv : px_A := fun _ pc lv st h => match st with
  | .ref a :: r => cond (px_isK a) (some (.inl (pc + 3, lv, .ref (a + 10) :: r, h))) none
  | _ => none
def px_strc : px_A := fun _ pc lv st h => match st with
  | .ref a :: r => cond (px_isK a) (some (.inl (pc + 3, lv, .int 0 :: r, h))) none
  | _ => none
def px_bald : px_A := fun _ pc lv st h => match st with
  | .int i :: .ref a :: r => cond (px_inb i 3) (cond (Nat.beq a 3012) (some (.inl (pc + 1, lv, .int (px_K2 i.toNatClampNeg) :: r, h))) (cond (Nat.beq a 3013) (some (.inl (pc + 1, lv, .int (px_K3 i.toNatClampNeg) :: r, h))) none)) none
  | _ => none
def px_slen : px_A := fun _ pc lv st h => match st with
  | .ref a :: r => cond (Nat.beq a 3012) (some (.inl (pc + 1, lv, .int 3 :: r, h))) (cond (Nat.beq a 3013) (some (.inl (pc + 1, lv, .int 3 :: r, h))) none)
  | _ => none
def px_iast : px_A := fun _ pc lv st h => match st with
  | .int x :: .int i :: .ref a :: r => match px_arr h a with
    | some (n, f) => cond (px_inb i n) (some (.inl (pc + 1, lv, r, px_put h a (.inl (0, n, .inl (upd f i.toNatClampNeg x)))))) none
    | none => none
  | _ => none
def px_aald : px_A := fun _ pc lv st h => match st with
  | .int i :: .ref a :: r => match px_cell h a with
    | some (.inl (t, n, .inr (.inr (.inr (.inr f))))) => cond (Nat.beq t 1 && px_inb i n) (match f i.toNatClampNeg with
      | some k => some (.inl (pc + 1, lv, .ref k :: r, h))
      | none => some (.inl (pc + 1, lv, .null :: r, h))) none
    | _ => none
  | _ => none
def px_alen : px_A := fun _ pc lv st h => match st with
  | .ref a :: r => match px_cell h a with
    | some (.inl (t, n, .inl _)) => cond (Nat.beq t 0) (some (.inl (pc + 1, lv, .int (Int32.ofNat n) :: r, h))) none
    | some (.inl (t, n, .inr (.inr (.inr (.inr _))))) => cond (Nat.beq t 1) (some (.inl (pc + 1, lv, .int (Int32.ofNat n) :: r, h))) none
    | _ => none
  | _ => none
def px_isO (h : px_H) (b ci : Nat) : Bool := match px_cell h b with
  | some (.inr (cj, _)) => Nat.beq cj ci
  | _ => false
def px_callV (j n ci : Nat) : px_A := fun cb pc lv st h => match px_pop (n + 1) st [] with
  | some (.ref b :: as, rest) => cond (px_isO h b ci && Nat.ble (px_cat rest) 8) (match cb j (.ref b :: as) h with
    | some (v, h') => some (.inl (pc + 3, lv, px_tl v rest, h'))
    | none => none) none
  | _ => none
/-- a call of one of the two texts -/
def px_callK (j n : Nat) : px_A := fun cb pc lv st h => match px_pop (n + 1) st [] with
  | some (.ref b :: as, rest) => cond (px_isK b && Nat.ble (px_cat rest) 8) (match cb j (.ref b :: as) h with
    | some (v, h') => some (.inl (pc + 3, lv, px_tl v rest, h'))
    | none => none) none
  | _ => none
def px_callS (j n : Nat) : px_A := fun cb pc lv st h => match px_pop n st [] with
  | some (as, rest) => cond (Nat.ble (px_cat rest) 8) (match cb j as h with
    | some (v, h') => some (.inl (pc + 3, lv, px_tl v rest, h'))
    | none => none) none
  | _ => none
def px_mx (f : Int32 → Int32 → Int32) : px_A := fun _ pc lv st h => match st with
  | .int y :: .int x :: r => cond (Nat.ble (px_cat r) 8) (some (.inl (pc + 3, lv, .int (f x y) :: r, h))) none
  | _ => none
def px_acopy : px_A := fun _ pc lv st h => match st with
  | .int n :: .int dp :: .ref b :: .int sp :: .ref a :: r => match px_arr h a, px_arr h b with
    | some (n0, f), some (n1, g) => cond (decide (0 ≤ sp) && decide (0 ≤ dp) && decide (0 ≤ n) && Nat.ble (sp.toNatClampNeg + n.toNatClampNeg) n0 && Nat.ble (dp.toNatClampNeg + n.toNatClampNeg) n1 && Nat.ble (px_cat r) 8)
      (some (.inl (pc + 3, lv, r, px_put h b (.inl (0, n1, .inl (va_cpy f g sp.toNatClampNeg dp.toNatClampNeg n.toNatClampNeg)))))) none
    | _, _ => none
  | _ => none
def px_iret : px_A := fun _ _ _ st h => match st with
  | [.int x] => some (.inr (some (.int x), h))
  | _ => none
def px_zret : px_A := fun _ _ _ st h => match st with
  | [.int x] => cond (x == 0 || x == 1) (some (.inr (some (.int x), h))) none
  | _ => none
def px_bret : px_A := fun _ _ _ st h => match st with
  | [.int x] => cond (x == 0) (some (.inr (some (.int x), h))) none
  | _ => none
def px_aret : px_A := fun _ _ _ st h => match st with
  | [.ref x] => some (.inr (some (.ref x), h))
  | [.null] => some (.inr (some .null, h))
  | _ => none
def px_vret : px_A := fun _ _ _ st h => match st with
  | [] => some (.inr (none, h))
  | _ => none
-- a method's code as a tree over its places
def px_node {α : Type} (k : Nat) (l r : Nat → Option α) : Nat → Option α := fun pc => cond (Nat.blt pc k) (l pc) (r pc)
def px_leaf {α : Type} (k : Nat) (a : α) : Nat → Option α := fun pc => cond (Nat.beq pc k) (some a) none
def px_loop (cb : px_C) (code : Nat → Option px_A) : Nat → Nat → px_L → List Value → px_H → Option (Option Value × px_H)
  | 0, _, _, _, _ => none
  | n + 1, pc, lv, st, h => match code pc with
    | none => none
    | some act => match act cb pc lv st h with
      | none => none
      | some (.inl (pc', lv', st', h')) => px_loop cb code n pc' lv' st' h'
      | some (.inr r) => some r
end
/-! part 03.sound -/
section
/-! WHAT A PURE STEP SAYS OF THE MACHINE -/
def px_mv (ad : Nat → Nat) : Value → Value
  | .ref k => .ref (ad k)
  | v => v
def px_mlf (ad : Nat → Nat) : Nat → px_L → List (Nat × Value)
  | _, [] => []
  | n, none :: r => px_mlf ad (n + 1) r
  | n, some v :: r => (n, px_mv ad v) :: px_mlf ad (n + 1) r
def px_ml (ad : Nat → Nat) (lv : px_L) : List (Nat × Value) := px_mlf ad 0 lv
abbrev px_ms (ad : Nat → Nat) (st : List Value) : List Value := st.map (px_mv ad)
def px_mx4 (ad : Nat → Nat) : vp_A → vp_A
  | (n, .inr (.inr (.inr (.inr f)))) => (n, .inr (.inr (.inr (.inr (fun j => (f j).map ad)))))
  | x => x
def px_me (tc : Nat → ClassId) (ad : Nat → Nat) : va_E → va_E
  | .inr (ci, fs) => .inr (ci, fs.map (px_mv ad))
  | .inl (t, x) => .inl (tc t, px_mx4 ad x)
def px_mi (tc : Nat → ClassId) (ad : Nat → Nat) : Nat → List va_E → va_W
  | _, [] => []
  | n, e :: r => (ad n, px_me tc ad e) :: px_mi tc ad (n + 1) r
def px_ws (tc : Nat → ClassId) (ad : Nat → Nat) (h : px_H) : va_W := px_mi tc ad 0 h.1 ++ px_mi tc ad 1000 h.2
def px_pl (h : px_H) (k : Nat) : Nat := cond (Nat.blt k 1000) k (h.1.length + (k - 1000))
theorem px_blt {a b : Nat} : Nat.blt a b = true ↔ a < b := by unfold Nat.blt; exact ⟨fun h => Nat.le_of_ble_eq_true h, fun h => Nat.ble_eq_true_of_le h⟩
theorem px_blt_f {a b : Nat} : Nat.blt a b = false ↔ b ≤ a := by
  constructor
  · intro h
    rcases Nat.lt_or_ge a b with q | q
    · rw [px_blt.mpr q] at h; cases h
    · exact q
  · intro h
    cases hb : Nat.blt a b with
    | false => rfl
    | true => exact absurd (px_blt.mp hb) (by omega)
theorem px_mi_len (tc : Nat → ClassId) (ad : Nat → Nat) : ∀ (l : List va_E) (n : Nat), (px_mi tc ad n l).length = l.length
  | [], _ => rfl
  | _ :: r, n => by simp [px_mi, px_mi_len tc ad r (n + 1)]
theorem px_mi_get (tc : Nat → ClassId) (ad : Nat → Nat) : ∀ (l : List va_E) (n k : Nat) (e : va_E), px_nth l k = some e → (px_mi tc ad n l)[k]? = some (ad (n + k), px_me tc ad e)
  | [], _, _, _, h => by cases h
  | a :: r, n, 0, e, h => by cases h; rfl
  | a :: r, n, k + 1, e, h => by
    show (px_mi tc ad (n + 1) r)[k]? = _
    rw [px_mi_get tc ad r (n + 1) k e h, show n + 1 + k = n + (k + 1) by omega]
theorem px_mi_set (tc : Nat → ClassId) (ad : Nat → Nat) : ∀ (l : List va_E) (n k : Nat) (e : va_E), (px_mi tc ad n l).set k (ad (n + k), px_me tc ad e) = px_mi tc ad n (px_stn l k e)
  | [], _, _, _ => rfl
  | a :: r, n, 0, e => rfl
  | a :: r, n, k + 1, e => by
    show (ad n, px_me tc ad a) :: (px_mi tc ad (n + 1) r).set k _ = _
    rw [show n + (k + 1) = n + 1 + k by omega, px_mi_set tc ad r (n + 1) k e]
    rfl
theorem px_stn_len {α : Type} : ∀ (l : List α) (k : Nat) (e : α), (px_stn l k e).length = l.length
  | [], _, _ => rfl
  | _ :: _, 0, _ => rfl
  | _ :: r, k + 1, e => by simp [px_stn, px_stn_len r k e]
theorem px_stn_set {α : Type} : ∀ (l : List α) (k : Nat) (e : α), px_stn l k e = l.set k e
  | [], _, _ => rfl
  | _ :: _, 0, _ => rfl
  | _ :: r, k + 1, e => by simp [px_stn, px_stn_set r k e]
theorem px_nth_lt {α : Type} : ∀ (l : List α) (k : Nat) (e : α), px_nth l k = some e → k < l.length
  | [], _, _, h => by cases h
  | _ :: _, 0, _, _ => Nat.succ_pos _
  | _ :: r, k + 1, e, h => Nat.succ_lt_succ (px_nth_lt r k e h)
theorem px_nth_get {α : Type} : ∀ (l : List α) (k : Nat), px_nth l k = l[k]?
  | [], _ => rfl
  | _ :: _, 0 => rfl
  | _ :: r, k + 1 => by simp [px_nth, px_nth_get r k]
theorem px_ws_get (tc : Nat → ClassId) (ad : Nat → Nat) {h : px_H} {k : Nat} {e : va_E} (hc : px_cell h k = some e) : (px_ws tc ad h)[px_pl h k]? = some (ad k, px_me tc ad e) := by
  unfold px_cell at hc
  unfold px_ws px_pl
  cases hb : Nat.blt k 1000 with
  | true =>
    rw [hb] at hc
    have hl := px_nth_lt _ _ _ hc
    rw [List.getElem?_append_left (by rw [px_mi_len]; exact hl)]
    have := px_mi_get tc ad h.1 0 k e hc
    rwa [Nat.zero_add] at this
  | false =>
    rw [hb] at hc
    have h1 := px_blt_f.mp hb
    show (px_mi tc ad 0 h.1 ++ px_mi tc ad 1000 h.2)[h.1.length + (k - 1000)]? = _
    rw [List.getElem?_append_right (by rw [px_mi_len]; omega), px_mi_len, Nat.add_sub_cancel_left, px_mi_get tc ad h.2 1000 (k - 1000) e hc, show 1000 + (k - 1000) = k by omega]
theorem px_ws_set (tc : Nat → ClassId) (ad : Nat → Nat) {h : px_H} {k : Nat} {e0 : va_E} (e : va_E) (hc : px_cell h k = some e0) : (px_ws tc ad h).set (px_pl h k) (ad k, px_me tc ad e) = px_ws tc ad (px_put h k e) := by
  unfold px_cell at hc
  unfold px_ws px_pl px_put
  cases hb : Nat.blt k 1000 with
  | true =>
    rw [hb] at hc
    have hl := px_nth_lt _ _ _ hc
    show (px_mi tc ad 0 h.1 ++ px_mi tc ad 1000 h.2).set k _ = px_mi tc ad 0 (px_stn h.1 k e) ++ px_mi tc ad 1000 h.2
    rw [List.set_append_left _ _ (by rw [px_mi_len]; exact hl)]
    have := px_mi_set tc ad h.1 0 k e
    rw [Nat.zero_add] at this
    rw [this]
  | false =>
    have h1 := px_blt_f.mp hb
    show (px_mi tc ad 0 h.1 ++ px_mi tc ad 1000 h.2).set (h.1.length + (k - 1000)) _ = px_mi tc ad 0 h.1 ++ px_mi tc ad 1000 (px_stn h.2 (k - 1000) e)
    rw [List.set_append_right _ _ (by rw [px_mi_len]; omega), px_mi_len, Nat.add_sub_cancel_left]
    have := px_mi_set tc ad h.2 1000 (k - 1000) e
    rw [show 1000 + (k - 1000) = k by omega] at this
    rw [this]
theorem px_mlf_mem (ad : Nat → Nat) : ∀ (lv : px_L) (n : Nat) (q : Nat × Value), q ∈ px_mlf ad n lv ↔ ∃ (k : Nat) (v : Value), px_get lv k = some v ∧ q = (n + k, px_mv ad v)
  | [], n, q => ⟨fun h => absurd h List.not_mem_nil, fun ⟨_, _, h, _⟩ => by cases h⟩
  | none :: r, n, q => by
    show q ∈ px_mlf ad (n + 1) r ↔ _
    rw [px_mlf_mem ad r (n + 1) q]
    constructor
    · rintro ⟨k, v, h1, h2⟩
      exact ⟨k + 1, v, h1, by rw [h2, show n + 1 + k = n + (k + 1) by omega]⟩
    · rintro ⟨k, v, h1, h2⟩
      cases k with
      | zero => cases h1
      | succ k => exact ⟨k, v, h1, by rw [h2, show n + 1 + k = n + (k + 1) by omega]⟩
  | some w :: r, n, q => by
    show q ∈ (n, px_mv ad w) :: px_mlf ad (n + 1) r ↔ _
    rw [List.mem_cons, px_mlf_mem ad r (n + 1) q]
    constructor
    · rintro (h | ⟨k, v, h1, h2⟩)
      · exact ⟨0, w, rfl, h⟩
      · exact ⟨k + 1, v, h1, by rw [h2, show n + 1 + k = n + (k + 1) by omega]⟩
    · rintro ⟨k, v, h1, h2⟩
      cases k with
      | zero => cases h1; exact Or.inl h2
      | succ k => exact Or.inr ⟨k, v, h1, by rw [h2, show n + 1 + k = n + (k + 1) by omega]⟩
theorem px_get_mem (ad : Nat → Nat) (lv : px_L) (i : Nat) (v : Value) (h : px_get lv i = some v) : ∃ k : Nat, (px_ml ad lv)[k]? = some (i, px_mv ad v) :=
  List.getElem?_of_mem ((px_mlf_mem ad lv 0 _).mpr ⟨i, v, h, by rw [Nat.zero_add]⟩)
theorem px_c2_mv (ad : Nat → Nat) (v : Value) : ((px_mv ad v).category == 2) = px_c2 v := by cases v <;> rfl
theorem px_set_get : ∀ (lv : px_L) (i : Nat) (v : Value) (k : Nat) (w : Value), px_get (px_set lv i v) k = some w → (k = i ∧ w = v) ∨ (k ≠ i ∧ px_get lv k = some w ∧ ¬ (k + 1 = i ∧ px_c2 w = true))
  | [], _, _, _, _, h => by cases h
  | o :: r, 0, v, 0, w, h => by cases h; exact Or.inl ⟨rfl, rfl⟩
  | o :: r, 0, v, k + 1, w, h => Or.inr ⟨by omega, h, by omega⟩
  | o :: r, n + 1, v, 0, w, h => by
    refine Or.inr ⟨by omega, ?_⟩
    have h : cond (Nat.beq n 0) (px_kl o) o = some w := h
    cases hb : Nat.beq n 0 with
    | false =>
      rw [hb] at h
      refine ⟨h, fun q => ?_⟩
      have e : n = 0 := by omega
      rw [e] at hb
      cases hb
    | true =>
      rw [hb] at h
      have h : px_kl o = some w := h
      cases o with
      | none => cases h
      | some z => cases z <;> first | (cases h; exact ⟨rfl, fun q => by cases q.2⟩) | cases h
  | o :: r, n + 1, v, k + 1, w, h => by
    rcases px_set_get r n v k w h with ⟨e1, e2⟩ | ⟨e1, e2, e3⟩
    · exact Or.inl ⟨by omega, e2⟩
    · exact Or.inr ⟨by omega, e2, fun q => e3 ⟨by omega, q.2⟩⟩
theorem px_beq (a b : Nat) : (a == b) = Nat.beq a b := by
  rw [Bool.eq_iff_iff, beq_iff_eq]
  exact ⟨fun h => by rw [h]; exact Nat.beq_refl b, Nat.eq_of_beq_eq_true⟩
theorem px_has_le {ls : Array Slot} {n : Nat} {l l' : List (Nat × Value)} (h : lv_has ls n l) (hs : ∀ q ∈ l', q ∈ l) : lv_has ls n l' := ⟨h.1, h.2.1, fun q hq => h.2.2 q (hs q hq)⟩
theorem px_has_set {ad : Nat → Nat} {ls : Array Slot} {n i : Nat} {lv : px_L} {v : Value} (h : lv_has ls n ((i, px_mv ad v) :: (px_ml ad lv).filter (fun q => !(q.1 == i) && !(q.1 + 1 == i && q.2.category == 2)))) : lv_has ls n (px_ml ad (px_set lv i v)) := by
  refine px_has_le h (fun q hq => ?_)
  obtain ⟨k, w, h1, rfl⟩ := (px_mlf_mem ad _ 0 q).mp hq
  rw [Nat.zero_add]
  rcases px_set_get lv i v k w h1 with ⟨e1, e2⟩ | ⟨e1, e2, e3⟩
  · subst e1; subst e2
    exact List.mem_cons_self
  · refine List.mem_cons_of_mem _ (List.mem_filter.mpr ⟨(px_mlf_mem ad lv 0 _).mpr ⟨k, w, e2, by rw [Nat.zero_add]⟩, ?_⟩)
    show (!(k == i) && !(k + 1 == i && (px_mv ad w).category == 2)) = true
    rw [px_c2_mv, px_beq, px_beq]
    cases hb : Nat.beq k i with
    | true => exact absurd (Nat.eq_of_beq_eq_true hb) e1
    | false =>
      cases hc : Nat.beq (k + 1) i with
      | false => rfl
      | true =>
        cases hd : px_c2 w with
        | false => rfl
        | true => exact absurd ⟨Nat.eq_of_beq_eq_true hc, hd⟩ e3
theorem px_cat_ms (ad : Nat → Nat) : ∀ st : List Value, ((px_ms ad st).map fun v => v.category).sum = px_cat st
  | [] => rfl
  | v :: r => by
    have h : (px_mv ad v).category = v.category := by cases v <;> rfl
    show (px_mv ad v).category + ((px_ms ad r).map fun v => v.category).sum = v.category + px_cat r
    rw [h, px_cat_ms ad r]
theorem px_pop_eq : ∀ (n : Nat) (st acc l rest : List Value), px_pop n st acc = some (l, rest) → ∃ t : List Value, t.length = n ∧ st = t ++ rest ∧ l = t.reverse ++ acc
  | 0, st, acc, l, rest, h => by cases h; exact ⟨[], rfl, rfl, rfl⟩
  | n + 1, [], acc, l, rest, h => by cases h
  | n + 1, v :: st, acc, l, rest, h => by
    obtain ⟨t, h1, h2, h3⟩ := px_pop_eq n st (v :: acc) l rest h
    exact ⟨v :: t, by simp [h1], by simp [h2], by simp [h3]⟩
theorem px_nones_mem (ad : Nat → Nat) : ∀ (n i : Nat), px_mlf ad i (px_nones n) = []
  | 0, _ => rfl
  | n + 1, i => px_nones_mem ad n (i + 1)
theorem px_args_mem (ad : Nat → Nat) : ∀ (as : List Value) (n i : Nat) (q : Nat × Value), q ∈ px_mlf ad i (px_args n as) → q ∈ lv_args i (px_ms ad as)
  | [], n, i, q, h => by
    rw [show px_args n [] = px_nones n from by cases n <;> rfl, px_nones_mem] at h
    exact absurd h List.not_mem_nil
  | v :: r, n, i, q, h => by
    have hc : (px_mv ad v).category = v.category := by cases v <;> rfl
    show q ∈ (i, px_mv ad v) :: lv_args (if (px_mv ad v).category = 2 then i + 2 else i + 1) (px_ms ad r)
    rw [hc]
    cases v <;> (rcases List.mem_cons.mp h with h | h <;> first | (rw [h]; exact List.mem_cons_self) | exact List.mem_cons_of_mem _ (px_args_mem ad r _ _ q h))
theorem px_has_args {ad : Nat → Nat} {ls : Array Slot} {n m : Nat} {as : List Value} (h : lv_has ls n (lv_args 0 (px_ms ad as))) : lv_has ls n (px_ml ad (px_args m as)) := px_has_le h (fun q hq => px_args_mem ad as m 0 q hq)
theorem px_sl_len (ad : Nat → Nat) : ∀ as : List Value, (lg_sl (px_ms ad as)).length = px_cat as
  | [] => rfl
  | v :: r => by
    have ih := px_sl_len ad r
    have e : lg_sl (px_ms ad (v :: r)) = (if (px_mv ad v).category = 2 then [Slot.val (px_mv ad v), .second] else [.val (px_mv ad v)]) ++ lg_sl (px_ms ad r) := rfl
    rw [e, List.length_append, ih]
    cases v <;> rfl
end
/-! part 04.ok -/
section
def px_ty (tc : Nat → ClassId) : List (ClassId × FieldType) := [(tc 0, .int), (tc 1, .object "FromTheMiddle$Sheet")]
def px_nest : List (String × Nat × MethodName × String) := [(RX3, 44, ⟨RX7, "quotient", "(II)I"⟩, RX7), (RX3, 48, ⟨RX7, "rest", "(II)I"⟩, RX7), (RX4, 82, ⟨RX7, "quotient", "(II)I"⟩, RX7), (RX6, 60, ⟨RX7, "isOfKind", "(II)Z"⟩, RX7), (RX6, 64, ⟨RX7, "quotient", "(II)I"⟩, RX7), (RX7, 30, ⟨RX5, "<init>", "()V"⟩, RX7), (RX7, 37, ⟨RX4, "<init>", "()V"⟩, RX7), (RX7, 44, ⟨RX2, "<init>", "()V"⟩, RX7), (RX7, 51, ⟨RX3, "<init>", "()V"⟩, RX7), (RX7, 58, ⟨RX6, "<init>", "()V"⟩, RX7)]
/-- what is constant: two static rows, two texts, the links among nest mates -/
def px_KC (ad : Nat → Nat) (A : Nat → Prop) (U : State) (H : Heap) : Prop :=
  (va_Z RX7 "LEAST" "[I" (.ref (ad 3000)) A U H ∧ va_T .int (ad 3000) 6 (fun j => .int (px_K0 j)) A U H) ∧ (va_Z RX7 "MOST" "[I" (.ref (ad 3001)) A U H ∧ va_T .int (ad 3001) 6 (fun j => .int (px_K1 j)) A U H) ∧
  (vk_R RX7 132 "ctw" (ad 3002) U ∧ vk_R RX7 134 "hnk" (ad 3003) U) ∧ (∀ q ∈ px_nest, va_Nw (.methodLinkNest q.1 q.2.1 q.2.2.1 q.2.2.2) U) ∧ va_AO RX5 U ∧
  (va_Z "java/lang/String" "COMPACT_STRINGS" "Z" (.int 1) A U H ∧ vk_S 2 [3, 3] [[99, 116, 119], [104, 110, 107]] (fun i => cond (Nat.beq i 0) (ad 3002) (ad 3003)) (fun i => cond (Nat.beq i 0) (ad 3012) (ad 3013)) A U H)
theorem px_KC.kept {ad : Nat → Nat} {A : Nat → Prop} {U : State} {H H1 : Heap} (h : px_KC ad A U H) (hq : ∀ a : Nat, a < H.size → ¬ A a → H1[a]? = H[a]?) : px_KC ad A U H1 := by
  obtain ⟨⟨a1, a2⟩, ⟨b1, b2⟩, hc, hd, he, hf, hg⟩ := h
  exact ⟨⟨a1.kept hq, a2.kept hq⟩, ⟨b1.kept hq, b2.kept hq⟩, hc, hd, he, hf.kept hq, hg.kept hq⟩
theorem px_KC.narrow {ad : Nat → Nat} {A B : Nat → Prop} {U : State} {H : Heap} (h : px_KC ad A U H) (hAB : ∀ q, B q → A q) : px_KC ad B U H := by
  obtain ⟨⟨a1, a2⟩, ⟨b1, b2⟩, hc, hd, he, hf, hg⟩ := h
  exact ⟨⟨a1.narrow hAB, a2.narrow hAB⟩, ⟨b1.narrow hAB, b2.narrow hAB⟩, hc, hd, he, hf.narrow hAB, hg.narrow hAB⟩
theorem px_KC.warm {ad : Nat → Nat} {A : Nat → Prop} {s U : State} {H : Heap} (hW : s.WarmedH U.vm) (h : px_KC ad A s H) : px_KC ad A U H := by
  obtain ⟨⟨a1, a2⟩, ⟨b1, b2⟩, hc, hd, he, hf, hg⟩ := h
  exact ⟨⟨a1.moved hW.alike, a2.moved hW.alike⟩, ⟨b1.moved hW.alike, b2.moved hW.alike⟩, ⟨hc.1.warm hW, hc.2.warm hW⟩, fun q hq => va_Nw.warmM hW (hd q hq), he.moved hW.alike, hf.moved hW.alike, hg.moved hW.alike⟩
theorem px_KC.same {ad : Nat → Nat} {A : Nat → Prop} {s U : State} {H : Heap} (hv : U.vm = s.vm) (h : px_KC ad A s H) : px_KC ad A U H := by
  obtain ⟨⟨a1, a2⟩, ⟨b1, b2⟩, hc, hd, he, hf, hg⟩ := h
  have hal : s.vm.Alike U.vm := by rw [hv]; exact Vm.Alike.refl _
  exact ⟨⟨a1.moved hal, a2.moved hal⟩, ⟨b1.moved hal, b2.moved hal⟩, ⟨hc.1.same hv, hc.2.same hv⟩, fun q hq => va_Nw.same rfl hv.symm (hd q hq), he.moved hal, hf.moved hal, hg.moved hal⟩
/-- a frame of a method, as the steps want it -/
def px_X (own : String) (cc : ByteArray) (nL : Nat) (p : Program) (R : Room) (s : State) (m : MethodId) (args : Array Value) (c : Code) (cells slots : Nat) (A : Nat → Prop) (ad : Nat → Nat) (D : va_G) (tc : Nat → ClassId) : Prop :=
  p.tables.exec = Jvm.exec ∧ c.code = cc ∧ c.maxLocals = nL ∧ s.vm.findClass own = some m.cls ∧ (∀ w ∈ px_words, w.before args s = true) ∧ va_K D vwCl (px_ty tc) s ∧ 1 ≤ R.frames ∧ 80 ≤ R.locals ∧ cells ≤ R.cells ∧ slots ≤ R.slots ∧ px_KC ad A s s.heap ∧ ∀ q, s.heap.size ≤ q → A q
def px_Wd (D : va_G) (tc : Nat → ClassId) (ad : Nat → Nat) (A : Nat → Prop) (H0 : Heap) (h : px_H) (H : Heap) (locs : List Loc) : Prop :=
  va_P D vwCl (px_ws tc ad h) H ∧ va_D A (px_ws tc ad h) ∧ va_S A H0 H locs
abbrev px_M : Type := MethodName × ByteArray × Nat × Option FieldType
def px_wj (M : px_M) : List Cond := .code M.1 M.2.1 M.2.2.1 M.2.2.2 :: px_words
def px_Pre (D : va_G) (tc : Nat → ClassId) (ad : Nat → Nat) (as : List Value) (h : px_H) (sz : Nat) : Array Value → State → Prop :=
  va_Pc (px_ms ad as) (fun U => U.heap.size = sz ∧ va_P D vwCl (px_ws tc ad h) U.heap ∧ va_K D vwCl (px_ty tc) U ∧ va_D (fun _ => True) (px_ws tc ad h) ∧ px_KC ad (va_A (px_ws tc ad h) sz) U U.heap)
def px_Q (D : va_G) (tc : Nat → ClassId) (ad : Nat → Nat) (v : Option Value) (h' : px_H) (A : Nat → Prop) : Array Value → State → Outcome → State → Prop := fun _ st oc t =>
  oc = .returned (v.map (px_mv ad)) ∧ va_P D vwCl (px_ws tc ad h') t.heap ∧ va_D A (px_ws tc ad h') ∧ va_F A st t
def px_Met (l : Launch) (D : va_G) (tc : Nat → ClassId) (ad : Nat → Nat) (rm : Room) (M : px_M) (as : List Value) (h : px_H) (v : Option Value) (h' : px_H) : Prop :=
  ∀ sz : Nat, Met l M.1 (px_wj M) rm (px_Pre D tc ad as h sz) (px_Q D tc ad v h' (va_A (px_ws tc ad h) sz)) 0 0 (va_A (px_ws tc ad h) sz)
/-- what a call of the pure machine says of the machine; mm: the methods by their numbers -/
def px_cbok (mm : Nat → Option px_M) (l : Launch) (R : Room) (D : va_G) (tc : Nat → ClassId) (ad : Nat → Nat) (cb : px_C) : Prop :=
  ∃ rm : Room, rm.frames + 1 ≤ R.frames ∧ 80 + rm.locals ≤ R.locals ∧ rm.cells = 0 ∧ rm.slots = 0 ∧ ∀ (j : Nat) (as : List Value) (h : px_H) (v : Option Value) (h' : px_H), cb j as h = some (v, h') → ∀ M, mm j = some M → px_Met l D tc ad rm M as h v h'
def px_end (cc : ByteArray) (ret : Option FieldType) (pc : Nat) (v : Option Value) (st : List Value) : Prop :=
  (∃ (x : Int32) (ty : FieldType), v = some (.int x) ∧ st = [.int x] ∧ ret = some ty ∧ narrow ty (.int x) = .int x ∧ decode cc pc = .ok (.ireturn, 1)) ∨
  (∃ (x : Value) (n : String), v = some x ∧ st = [x] ∧ (x = .null ∨ ∃ k, x = .ref k) ∧ ret = some (.object n) ∧ decode cc pc = .ok (.areturn, 1)) ∨
  (v = none ∧ st = [] ∧ ret = none ∧ decode cc pc = .ok (.return_, 1))
section PXOK
variable {p : Program} {l : Launch} {e : Env} {R : Room} {s : State} {m : MethodId} {args : Array Value} {below : List Frame} {meth : Method} {c : Code} {cells slots : Nat} {Q : State → Prop} {A : Nat → Prop} {ad : Nat → Nat} {D : va_G} {tc : Nat → ClassId}
def px_tr (p : Program) (l : Launch) (e : Env) (R : Room) (s : State) (m : MethodId) (args : Array Value) (below : List Frame) (meth : Method) (c : Code) (cells slots : Nat) (Q : State → Prop) (A : Nat → Prop) (ad : Nat → Nat) (D : va_G) (tc : Nat → ClassId) (cc : ByteArray) (nL : Nat) (ret : Option FieldType) (pc : Nat) (lv : px_L) (st : List Value) (h : px_H) : px_N → Prop
  | .inl (pc', lv', st', h') => ∀ (H : Heap) (locs : List Loc) (ls : Array Slot), px_Wd D tc ad A s.heap h H locs → lv_has ls nL (px_ml ad lv) →
    (∀ (H' : Heap) (locs' : List Loc) (ls' : Array Slot), px_Wd D tc ad A s.heap h' H' locs' → lv_has ls' nL (px_ml ad lv') → W p l e R s m args below meth c H' locs' cells slots Q (F0 m pc' ls' (px_ms ad st'))) →
    W p l e R s m args below meth c H locs cells slots Q (F0 m pc ls (px_ms ad st))
  | .inr (v, h') => h' = h ∧ px_end cc ret pc v st
end PXOK
/-- a step of a method, at a place, is the machine's -/
def px_ok (mm : Nat → Option px_M) (own : String) (cc : ByteArray) (nL : Nat) (ret : Option FieldType) (pc : Nat) (act : px_A) : Prop :=
  ∀ (p : Program) (l : Launch) (e : Env) (R : Room) (s : State) (m : MethodId) (args : Array Value) (below : List Frame) (meth : Method) (c : Code) (cells slots : Nat) (Q : State → Prop) (A : Nat → Prop) (ad : Nat → Nat) (D : va_G) (tc : Nat → ClassId) (cb : px_C),
    px_X own cc nL p R s m args c cells slots A ad D tc → px_cbok mm l R D tc ad cb → ∀ (lv : px_L) (st : List Value) (h : px_H) (r : px_N), act cb pc lv st h = some r → px_tr p l e R s m args below meth c cells slots Q A ad D tc cc nL ret pc lv st h r
section PXROWS
variable {mm : Nat → Option px_M} {own : String} {cc : ByteArray} {nL : Nat} {ret : Option FieldType} {pc : Nat}
theorem ok_iconst {i : Int} {v : Int32} (hdg : decode cc pc = .ok (.iconst i, 1)) (hv : Int32.ofInt i = v) : px_ok mm own cc nL ret pc (px_pushi v 1) := by
  intro p l e R s m args below meth c cells slots Q A ad D tc cb X _ lv st h r hr
  cases hr
  exact fun H locs ls hW hl k => lv_iconst X.1 X.2.1 hdg hv (k _ _ _ hW hl)
theorem ok_bipush {i : Int} {v : Int32} (hdg : decode cc pc = .ok (.bipush i, 2)) (hv : (Int8.ofInt i).toInt32 = v) : px_ok mm own cc nL ret pc (px_pushi v 2) := by
  intro p l e R s m args below meth c cells slots Q A ad D tc cb X _ lv st h r hr
  cases hr
  exact fun H locs ls hW hl k => lv_bipush X.1 X.2.1 hdg hv (k _ _ _ hW hl)
theorem ok_sipush {i : Int} {v : Int32} (hdg : decode cc pc = .ok (.sipush i, 3)) (hv : (Int16.ofInt i).toInt32 = v) : px_ok mm own cc nL ret pc (px_pushi v 3) := by
  intro p l e R s m args below meth c cells slots Q A ad D tc cb X _ lv st h r hr
  cases hr
  exact fun H locs ls hW hl k => lv_sipush X.1 X.2.1 hdg hv (k _ _ _ hW hl)
theorem ok_ldc {i : Nat} {v : Int32} (hw : Cond.constant own i v ∈ px_words) (hdg : decode cc pc = .ok (.ldc i, 2)) : px_ok mm own cc nL ret pc (px_pushi v 2) := by
  intro p l e R s m args below meth c cells slots Q A ad D tc cb X _ lv st h r hr
  cases hr
  exact fun H locs ls hW hl k => lv_ldc X.1 X.2.1 X.2.2.2.1 (X.2.2.2.2.1 _ hw) hdg (k _ _ _ hW hl)
theorem ok_ldcw {i : Nat} {v : Int32} (hw : Cond.constant own i v ∈ px_words) (hdg : decode cc pc = .ok (.ldc_w i, 3)) : px_ok mm own cc nL ret pc (px_pushi v 3) := by
  intro p l e R s m args below meth c cells slots Q A ad D tc cb X _ lv st h r hr
  cases hr
  exact fun H locs ls hW hl k => lv_ldcw X.1 X.2.1 X.2.2.2.1 (X.2.2.2.2.1 _ hw) hdg (k _ _ _ hW hl)
theorem ok_ldc2 {i : Nat} {v : Int64} (hw : Cond.constantLong own i v ∈ px_words) (hdg : decode cc pc = .ok (.ldc2_w i, 3)) : px_ok mm own cc nL ret pc (px_pushl v 3) := by
  intro p l e R s m args below meth c cells slots Q A ad D tc cb X _ lv st h r hr
  cases hr
  exact fun H locs ls hW hl k => lv_ldc2 X.1 X.2.1 X.2.2.2.1 (X.2.2.2.2.1 _ hw) hdg (k _ _ _ hW hl)
theorem ok_null (hdg : decode cc pc = .ok (.aconst_null, 1)) : px_ok mm own cc nL ret pc px_pushn := by
  intro p l e R s m args below meth c cells slots Q A ad D tc cb X _ lv st h r hr
  cases hr
  exact fun H locs ls hW hl k => lv_null X.1 X.2.1 hdg (k _ _ _ hW hl)
theorem px_ild_r {i n : Nat} {cb : px_C} {lv : px_L} {st : List Value} {h : px_H} {r : px_N} (hr : px_ild i n cb pc lv st h = some r) : ∃ x, px_get lv i = some (.int x) ∧ r = .inl (pc + n, lv, .int x :: st, h) := by
  unfold px_ild at hr
  split at hr
  · next x hx => cases hr; exact ⟨x, hx, rfl⟩
  · cases hr
theorem ok_iload_n {k : Fin 4} {i : Nat} (hi : (k : Nat) = i) (hdg : decode cc pc = .ok (.iload_n k, 1)) : px_ok mm own cc nL ret pc (px_ild i 1) := by
  intro p l e R s m args below meth c cells slots Q A ad D tc cb X _ lv st h r hr
  obtain ⟨x, hx, rfl⟩ := px_ild_r hr
  obtain ⟨q, hq⟩ := px_get_mem ad _ _ _ hx
  exact fun H locs ls hW hl k => lv_iload_n X.1 X.2.1 hdg hi (lv_at hl q hq) (k _ _ _ hW hl)
theorem ok_iload {i : Nat} (hdg : decode cc pc = .ok (.iload i, 2)) : px_ok mm own cc nL ret pc (px_ild i 2) := by
  intro p l e R s m args below meth c cells slots Q A ad D tc cb X _ lv st h r hr
  obtain ⟨x, hx, rfl⟩ := px_ild_r hr
  obtain ⟨q, hq⟩ := px_get_mem ad _ _ _ hx
  exact fun H locs ls hW hl k => lv_iload X.1 X.2.1 hdg (lv_at hl q hq) (k _ _ _ hW hl)
theorem ok_lload_n {k : Fin 4} {i : Nat} (hi : (k : Nat) = i) (hdg : decode cc pc = .ok (.lload_n k, 1)) : px_ok mm own cc nL ret pc (px_lld i 1) := by
  intro p l e R s m args below meth c cells slots Q A ad D tc cb X _ lv st h r hr
  unfold px_lld at hr
  split at hr
  · next x hx =>
    cases hr
    obtain ⟨q, hq⟩ := px_get_mem ad _ _ _ hx
    exact fun H locs ls hW hl k => lv_lload_n X.1 X.2.1 hdg hi (lv_at hl q hq) (k _ _ _ hW hl)
  · cases hr
theorem ok_aload_n {k : Fin 4} {i : Nat} (hi : (k : Nat) = i) (hdg : decode cc pc = .ok (.aload_n k, 1)) : px_ok mm own cc nL ret pc (px_ald i 1) := by
  intro p l e R s m args below meth c cells slots Q A ad D tc cb X _ lv st h r hr
  unfold px_ald at hr
  split at hr
  · next x hx =>
    cases hr
    obtain ⟨q, hq⟩ := px_get_mem ad _ _ _ hx
    exact fun H locs ls hW hl k => lv_aload_n X.1 X.2.1 hdg hi (lv_at hl q hq) (k _ _ _ hW hl)
  · next hx =>
    cases hr
    obtain ⟨q, hq⟩ := px_get_mem ad _ _ _ hx
    exact fun H locs ls hW hl k => lv_aload_nN X.1 X.2.1 hdg hi (lv_at hl q hq) (k _ _ _ hW hl)
  · cases hr
theorem ok_aload {i : Nat} (hdg : decode cc pc = .ok (.aload i, 2)) : px_ok mm own cc nL ret pc (px_ald i 2) := by
  intro p l e R s m args below meth c cells slots Q A ad D tc cb X _ lv st h r hr
  unfold px_ald at hr
  split at hr
  · next x hx =>
    cases hr
    obtain ⟨q, hq⟩ := px_get_mem ad _ _ _ hx
    exact fun H locs ls hW hl k => lv_aload X.1 X.2.1 hdg (lv_at hl q hq) (k _ _ _ hW hl)
  · next hx =>
    cases hr
    obtain ⟨q, hq⟩ := px_get_mem ad _ _ _ hx
    exact fun H locs ls hW hl k => lv_aloadN X.1 X.2.1 hdg (lv_at hl q hq) (k _ _ _ hW hl)
  · cases hr
theorem ok_istore_n {k : Fin 4} {i : Nat} (hi : (k : Nat) = i) (hn : i < nL) (hdg : decode cc pc = .ok (.istore_n k, 1)) : px_ok mm own cc nL ret pc (px_ist i 1) := by
  intro p l e R s m args below meth c cells slots Q A ad D tc cb X _ lv st h r hr
  unfold px_ist at hr
  split at hr
  · cases hr
    exact fun H locs ls hW hl k => lv_istore_n X.1 X.2.1 hdg hi hl hn rfl (fun ls' hl' => k _ _ _ hW (px_has_set (v := .int _) hl'))
  · cases hr
theorem ok_istore {i : Nat} (hn : i < nL) (hdg : decode cc pc = .ok (.istore i, 2)) : px_ok mm own cc nL ret pc (px_ist i 2) := by
  intro p l e R s m args below meth c cells slots Q A ad D tc cb X _ lv st h r hr
  unfold px_ist at hr
  split at hr
  · cases hr
    exact fun H locs ls hW hl k => lv_istore X.1 X.2.1 hdg hl hn rfl (fun ls' hl' => k _ _ _ hW (px_has_set (v := .int _) hl'))
  · cases hr
theorem ok_astore_n {k : Fin 4} {i : Nat} (hi : (k : Nat) = i) (hn : i < nL) (hdg : decode cc pc = .ok (.astore_n k, 1)) : px_ok mm own cc nL ret pc (px_ast i 1) := by
  intro p l e R s m args below meth c cells slots Q A ad D tc cb X _ lv st h r hr
  unfold px_ast at hr
  split at hr
  · cases hr
    exact fun H locs ls hW hl k => lv_astore_n X.1 X.2.1 hdg hi hl hn rfl (fun ls' hl' => k _ _ _ hW (px_has_set (v := .ref _) hl'))
  · cases hr
    exact fun H locs ls hW hl k => lv_astore_nN X.1 X.2.1 hdg hi hl hn rfl (fun ls' hl' => k _ _ _ hW (px_has_set (v := .null) hl'))
  · cases hr
theorem ok_astore {i : Nat} (hn : i < nL) (hdg : decode cc pc = .ok (.astore i, 2)) : px_ok mm own cc nL ret pc (px_ast i 2) := by
  intro p l e R s m args below meth c cells slots Q A ad D tc cb X _ lv st h r hr
  unfold px_ast at hr
  split at hr
  · cases hr
    exact fun H locs ls hW hl k => lv_astore X.1 X.2.1 hdg hl hn rfl (fun ls' hl' => k _ _ _ hW (px_has_set (v := .ref _) hl'))
  · cases hr
    exact fun H locs ls hW hl k => lv_astoreN X.1 X.2.1 hdg hl hn rfl (fun ls' hl' => k _ _ _ hW (px_has_set (v := .null) hl'))
  · cases hr
theorem ok_iinc {i : Nat} {n : Int} {v : Int32} (hn : i < nL) (hv : Int32.ofInt n = v) (hdg : decode cc pc = .ok (.iinc i n, 3)) : px_ok mm own cc nL ret pc (px_iinc i v) := by
  intro p l e R s m args below meth c cells slots Q A ad D tc cb X _ lv st h r hr
  unfold px_iinc at hr
  split at hr
  · next x hx =>
    cases hr
    obtain ⟨q, hq⟩ := px_get_mem ad _ _ _ hx
    exact fun H locs ls hW hl k => lv_iinc X.1 X.2.1 hdg hl hq (by rw [hv]) hn rfl (fun ls' hl' => k _ _ _ hW (px_has_set (v := .int _) hl'))
  · cases hr
theorem ok_dup (hdg : decode cc pc = .ok (.dup, 1)) : px_ok mm own cc nL ret pc px_dup := by
  intro p l e R s m args below meth c cells slots Q A ad D tc cb X _ lv st h r hr
  unfold px_dup at hr
  split at hr
  · cases hr
    exact fun H locs ls hW hl k => lv_dup X.1 X.2.1 hdg rfl (k _ _ _ hW hl)
  · cases hr
    exact fun H locs ls hW hl k => lv_dup X.1 X.2.1 hdg rfl (k _ _ _ hW hl)
  · cases hr
theorem ok_dup2 (hdg : decode cc pc = .ok (.dup2, 1)) : px_ok mm own cc nL ret pc px_dup2 := by
  intro p l e R s m args below meth c cells slots Q A ad D tc cb X _ lv st h r hr
  unfold px_dup2 at hr
  split at hr
  · cases hr
    exact fun H locs ls hW hl k => lv_dup2_11 X.1 X.2.1 hdg rfl rfl (k _ _ _ hW hl)
  · cases hr
theorem ok_pop (hdg : decode cc pc = .ok (.pop, 1)) : px_ok mm own cc nL ret pc px_popi := by
  intro p l e R s m args below meth c cells slots Q A ad D tc cb X _ lv st h r hr
  unfold px_popi at hr
  split at hr
  · cases hr
    exact fun H locs ls hW hl k => lv_pop X.1 X.2.1 hdg rfl (k _ _ _ hW hl)
  · cases hr
theorem px_bin_r {f : Int32 → Int32 → Int32} {cb : px_C} {lv : px_L} {st : List Value} {h : px_H} {r : px_N} (hr : px_bin f cb pc lv st h = some r) : ∃ x y rest, st = .int y :: .int x :: rest ∧ r = .inl (pc + 1, lv, .int (f x y) :: rest, h) := by
  unfold px_bin at hr
  split at hr
  · cases hr; exact ⟨_, _, _, rfl, rfl⟩
  · cases hr
theorem ok_iadd (hdg : decode cc pc = .ok (.iadd, 1)) : px_ok mm own cc nL ret pc (px_bin (fun x y => x + y)) := by
  intro p l e R s m args below meth c cells slots Q A ad D tc cb X _ lv st h r hr
  obtain ⟨x, y, rest, rfl, rfl⟩ := px_bin_r hr
  exact fun H locs ls hW hl k => lv_iadd X.1 X.2.1 hdg (k _ _ _ hW hl)
theorem ok_isub (hdg : decode cc pc = .ok (.isub, 1)) : px_ok mm own cc nL ret pc (px_bin (fun x y => x - y)) := by
  intro p l e R s m args below meth c cells slots Q A ad D tc cb X _ lv st h r hr
  obtain ⟨x, y, rest, rfl, rfl⟩ := px_bin_r hr
  exact fun H locs ls hW hl k => lv_isub X.1 X.2.1 hdg (k _ _ _ hW hl)
theorem ok_imul (hdg : decode cc pc = .ok (.imul, 1)) : px_ok mm own cc nL ret pc (px_bin (fun x y => x * y)) := by
  intro p l e R s m args below meth c cells slots Q A ad D tc cb X _ lv st h r hr
  obtain ⟨x, y, rest, rfl, rfl⟩ := px_bin_r hr
  exact fun H locs ls hW hl k => lv_imul X.1 X.2.1 hdg (k _ _ _ hW hl)
theorem ok_iand (hdg : decode cc pc = .ok (.iand, 1)) : px_ok mm own cc nL ret pc (px_bin (fun x y => x &&& y)) := by
  intro p l e R s m args below meth c cells slots Q A ad D tc cb X _ lv st h r hr
  obtain ⟨x, y, rest, rfl, rfl⟩ := px_bin_r hr
  exact fun H locs ls hW hl k => lv_iand X.1 X.2.1 hdg (k _ _ _ hW hl)
theorem ok_ixor (hdg : decode cc pc = .ok (.ixor, 1)) : px_ok mm own cc nL ret pc (px_bin (fun x y => x ^^^ y)) := by
  intro p l e R s m args below meth c cells slots Q A ad D tc cb X _ lv st h r hr
  obtain ⟨x, y, rest, rfl, rfl⟩ := px_bin_r hr
  exact fun H locs ls hW hl k => lv_ixor X.1 X.2.1 hdg (k _ _ _ hW hl)
theorem ok_ishl (hdg : decode cc pc = .ok (.ishl, 1)) : px_ok mm own cc nL ret pc (px_bin (fun x y => x <<< (y &&& 31))) := by
  intro p l e R s m args below meth c cells slots Q A ad D tc cb X _ lv st h r hr
  obtain ⟨x, y, rest, rfl, rfl⟩ := px_bin_r hr
  exact fun H locs ls hW hl k => lv_ishl X.1 X.2.1 hdg (k _ _ _ hW hl)
theorem ok_ishr (hdg : decode cc pc = .ok (.ishr, 1)) : px_ok mm own cc nL ret pc (px_bin (fun x y => x >>> (y &&& 31))) := by
  intro p l e R s m args below meth c cells slots Q A ad D tc cb X _ lv st h r hr
  obtain ⟨x, y, rest, rfl, rfl⟩ := px_bin_r hr
  exact fun H locs ls hW hl k => lv_ishr X.1 X.2.1 hdg (k _ _ _ hW hl)
theorem ok_iushr (hdg : decode cc pc = .ok (.iushr, 1)) : px_ok mm own cc nL ret pc (px_bin (fun x y => (x.toUInt32 >>> (y.toUInt32 &&& Int32.toUInt32 31)).toInt32)) := by
  intro p l e R s m args below meth c cells slots Q A ad D tc cb X _ lv st h r hr
  obtain ⟨x, y, rest, rfl, rfl⟩ := px_bin_r hr
  exact fun H locs ls hW hl k => lv_iushr X.1 X.2.1 hdg rfl (k _ _ _ hW hl)
theorem ok_idiv (hdg : decode cc pc = .ok (.idiv, 1)) : px_ok mm own cc nL ret pc (px_bin0 (fun x y => x / y)) := by
  intro p l e R s m args below meth c cells slots Q A ad D tc cb X _ lv st h r hr
  unfold px_bin0 at hr
  split at hr
  · next y x rest =>
    by_cases hy : y = 0
    · rw [decide_eq_true hy] at hr; cases hr
    · rw [decide_eq_false hy] at hr
      cases hr
      exact fun H locs ls hW hl k => lv_idiv X.1 X.2.1 hdg hy (k _ _ _ hW hl)
  · cases hr
theorem ok_irem (hdg : decode cc pc = .ok (.irem, 1)) : px_ok mm own cc nL ret pc (px_bin0 (fun x y => x - x / y * y)) := by
  intro p l e R s m args below meth c cells slots Q A ad D tc cb X _ lv st h r hr
  unfold px_bin0 at hr
  split at hr
  · next y x rest =>
    by_cases hy : y = 0
    · rw [decide_eq_true hy] at hr; cases hr
    · rw [decide_eq_false hy] at hr
      cases hr
      exact fun H locs ls hW hl k => lv_irem X.1 X.2.1 hdg hy (k _ _ _ hW hl)
  · cases hr
theorem ok_ineg (hdg : decode cc pc = .ok (.ineg, 1)) : px_ok mm own cc nL ret pc (px_un (fun x => -x)) := by
  intro p l e R s m args below meth c cells slots Q A ad D tc cb X _ lv st h r hr
  unfold px_un at hr
  split at hr
  · cases hr
    exact fun H locs ls hW hl k => lv_ineg X.1 X.2.1 hdg (k _ _ _ hW hl)
  · cases hr
theorem ok_i2b (hdg : decode cc pc = .ok (.i2b, 1)) : px_ok mm own cc nL ret pc (px_un (fun x => x.toInt8.toInt32)) := by
  intro p l e R s m args below meth c cells slots Q A ad D tc cb X _ lv st h r hr
  unfold px_un at hr
  split at hr
  · cases hr
    exact fun H locs ls hW hl k => lv_i2b X.1 X.2.1 hdg rfl (k _ _ _ hW hl)
  · cases hr
theorem ok_i2s (hdg : decode cc pc = .ok (.i2s, 1)) : px_ok mm own cc nL ret pc (px_un (fun x => x.toInt16.toInt32)) := by
  intro p l e R s m args below meth c cells slots Q A ad D tc cb X _ lv st h r hr
  unfold px_un at hr
  split at hr
  · cases hr
    exact fun H locs ls hW hl k => lv_i2s X.1 X.2.1 hdg rfl (k _ _ _ hW hl)
  · cases hr
theorem ok_i2c (hdg : decode cc pc = .ok (.i2c, 1)) : px_ok mm own cc nL ret pc (px_un (fun x => (x.toUInt32 % 65536).toInt32)) := by
  intro p l e R s m args below meth c cells slots Q A ad D tc cb X _ lv st h r hr
  unfold px_un at hr
  split at hr
  · cases hr
    exact fun H locs ls hW hl k => lv_i2c X.1 X.2.1 hdg rfl (k _ _ _ hW hl)
  · cases hr
theorem ok_i2l (hdg : decode cc pc = .ok (.i2l, 1)) : px_ok mm own cc nL ret pc px_i2l := by
  intro p l e R s m args below meth c cells slots Q A ad D tc cb X _ lv st h r hr
  unfold px_i2l at hr
  split at hr
  · cases hr
    exact fun H locs ls hW hl k => lv_i2l X.1 X.2.1 hdg rfl (k _ _ _ hW hl)
  · cases hr
theorem ok_l2i (hdg : decode cc pc = .ok (.l2i, 1)) : px_ok mm own cc nL ret pc px_l2i := by
  intro p l e R s m args below meth c cells slots Q A ad D tc cb X _ lv st h r hr
  unfold px_l2i at hr
  split at hr
  · cases hr
    exact fun H locs ls hW hl k => lv_l2i X.1 X.2.1 hdg rfl (k _ _ _ hW hl)
  · cases hr
theorem ok_land (hdg : decode cc pc = .ok (.land, 1)) : px_ok mm own cc nL ret pc (px_lbin (fun x y => x &&& y)) := by
  intro p l e R s m args below meth c cells slots Q A ad D tc cb X _ lv st h r hr
  unfold px_lbin at hr
  split at hr
  · cases hr
    exact fun H locs ls hW hl k => lv_land X.1 X.2.1 hdg (k _ _ _ hW hl)
  · cases hr
theorem ok_lor (hdg : decode cc pc = .ok (.lor, 1)) : px_ok mm own cc nL ret pc (px_lbin (fun x y => x ||| y)) := by
  intro p l e R s m args below meth c cells slots Q A ad D tc cb X _ lv st h r hr
  unfold px_lbin at hr
  split at hr
  · cases hr
    exact fun H locs ls hW hl k => lv_lor X.1 X.2.1 hdg (k _ _ _ hW hl)
  · cases hr
theorem ok_lshl (hdg : decode cc pc = .ok (.lshl, 1)) : px_ok mm own cc nL ret pc (px_lsh (fun x y => x <<< (y.toInt64 &&& 63))) := by
  intro p l e R s m args below meth c cells slots Q A ad D tc cb X _ lv st h r hr
  unfold px_lsh at hr
  split at hr
  · cases hr
    exact fun H locs ls hW hl k => lv_lshl X.1 X.2.1 hdg rfl (k _ _ _ hW hl)
  · cases hr
theorem ok_lshr (hdg : decode cc pc = .ok (.lshr, 1)) : px_ok mm own cc nL ret pc (px_lsh (fun x y => x >>> (y.toInt64 &&& 63))) := by
  intro p l e R s m args below meth c cells slots Q A ad D tc cb X _ lv st h r hr
  unfold px_lsh at hr
  split at hr
  · cases hr
    exact fun H locs ls hW hl k => lv_lshr X.1 X.2.1 hdg rfl (k _ _ _ hW hl)
  · cases hr
theorem ok_lushr (hdg : decode cc pc = .ok (.lushr, 1)) : px_ok mm own cc nL ret pc (px_lsh (fun x y => (x.toUInt64 >>> (y.toInt64.toUInt64 &&& Int64.toUInt64 63)).toInt64)) := by
  intro p l e R s m args below meth c cells slots Q A ad D tc cb X _ lv st h r hr
  unfold px_lsh at hr
  split at hr
  · cases hr
    exact fun H locs ls hW hl k => lv_lushr X.1 X.2.1 hdg rfl (k _ _ _ hW hl)
  · cases hr
theorem ok_goto {off : Int} {t : Nat} (ht : (pc : Int) + off = (t : Int)) (hdg : decode cc pc = .ok (.goto off, 3)) : px_ok mm own cc nL ret pc (px_goto t) := by
  intro p l e R s m args below meth c cells slots Q A ad D tc cb X _ lv st h r hr
  cases hr
  exact fun H locs ls hW hl k => lv_goto X.1 X.2.1 hdg ht (k _ _ _ hW hl)
theorem ok_if_eq {off : Int} {t : Nat} (ht : (pc : Int) + off = (t : Int)) (hdg : decode cc pc = .ok (.ifCond .eq off, 3)) : px_ok mm own cc nL ret pc (px_if (fun x => decide (x = 0)) t) := by
  intro p l e R s m args below meth c cells slots Q A ad D tc cb X _ lv st h r hr
  unfold px_if at hr
  split at hr
  · cases hr
    exact fun H locs ls hW hl k => lv_if_eq X.1 X.2.1 hdg ht (fun hP => by have q := k _ _ _ hW hl; dsimp only at q; rw [decide_eq_true hP] at q; exact q) (fun hP => by have q := k _ _ _ hW hl; dsimp only at q; rw [decide_eq_false hP] at q; exact q)
  · cases hr
theorem ok_icmp_eq {off : Int} {t : Nat} (ht : (pc : Int) + off = (t : Int)) (hdg : decode cc pc = .ok (.if_icmp .eq off, 3)) : px_ok mm own cc nL ret pc (px_icmp (fun x y => decide (x = y)) t) := by
  intro p l e R s m args below meth c cells slots Q A ad D tc cb X _ lv st h r hr
  unfold px_icmp at hr
  split at hr
  · cases hr
    exact fun H locs ls hW hl k => lv_icmp_eq X.1 X.2.1 hdg ht (fun hP => by have q := k _ _ _ hW hl; dsimp only at q; rw [decide_eq_true hP] at q; exact q) (fun hP => by have q := k _ _ _ hW hl; dsimp only at q; rw [decide_eq_false hP] at q; exact q)
  · cases hr
theorem ok_if_ne {off : Int} {t : Nat} (ht : (pc : Int) + off = (t : Int)) (hdg : decode cc pc = .ok (.ifCond .ne off, 3)) : px_ok mm own cc nL ret pc (px_if (fun x => !decide (x = 0)) t) := by
  intro p l e R s m args below meth c cells slots Q A ad D tc cb X _ lv st h r hr
  unfold px_if at hr
  split at hr
  · cases hr
    exact fun H locs ls hW hl k => lv_if_ne X.1 X.2.1 hdg ht (fun hP => by have q := k _ _ _ hW hl; dsimp only at q; rw [decide_eq_false hP] at q; exact q) (fun hP => by have q := k _ _ _ hW hl; dsimp only at q; rw [decide_eq_true hP] at q; exact q)
  · cases hr
theorem ok_icmp_ne {off : Int} {t : Nat} (ht : (pc : Int) + off = (t : Int)) (hdg : decode cc pc = .ok (.if_icmp .ne off, 3)) : px_ok mm own cc nL ret pc (px_icmp (fun x y => !decide (x = y)) t) := by
  intro p l e R s m args below meth c cells slots Q A ad D tc cb X _ lv st h r hr
  unfold px_icmp at hr
  split at hr
  · cases hr
    exact fun H locs ls hW hl k => lv_icmp_ne X.1 X.2.1 hdg ht (fun hP => by have q := k _ _ _ hW hl; dsimp only at q; rw [decide_eq_false hP] at q; exact q) (fun hP => by have q := k _ _ _ hW hl; dsimp only at q; rw [decide_eq_true hP] at q; exact q)
  · cases hr
theorem ok_if_lt {off : Int} {t : Nat} (ht : (pc : Int) + off = (t : Int)) (hdg : decode cc pc = .ok (.ifCond .lt off, 3)) : px_ok mm own cc nL ret pc (px_if (fun x => decide (x < 0)) t) := by
  intro p l e R s m args below meth c cells slots Q A ad D tc cb X _ lv st h r hr
  unfold px_if at hr
  split at hr
  · cases hr
    exact fun H locs ls hW hl k => lv_if_lt X.1 X.2.1 hdg ht (fun hP => by have q := k _ _ _ hW hl; dsimp only at q; rw [decide_eq_true hP] at q; exact q) (fun hP => by have q := k _ _ _ hW hl; dsimp only at q; rw [decide_eq_false hP] at q; exact q)
  · cases hr
theorem ok_icmp_lt {off : Int} {t : Nat} (ht : (pc : Int) + off = (t : Int)) (hdg : decode cc pc = .ok (.if_icmp .lt off, 3)) : px_ok mm own cc nL ret pc (px_icmp (fun x y => decide (x < y)) t) := by
  intro p l e R s m args below meth c cells slots Q A ad D tc cb X _ lv st h r hr
  unfold px_icmp at hr
  split at hr
  · cases hr
    exact fun H locs ls hW hl k => lv_icmp_lt X.1 X.2.1 hdg ht (fun hP => by have q := k _ _ _ hW hl; dsimp only at q; rw [decide_eq_true hP] at q; exact q) (fun hP => by have q := k _ _ _ hW hl; dsimp only at q; rw [decide_eq_false hP] at q; exact q)
  · cases hr
theorem ok_if_ge {off : Int} {t : Nat} (ht : (pc : Int) + off = (t : Int)) (hdg : decode cc pc = .ok (.ifCond .ge off, 3)) : px_ok mm own cc nL ret pc (px_if (fun x => decide (0 ≤ x)) t) := by
  intro p l e R s m args below meth c cells slots Q A ad D tc cb X _ lv st h r hr
  unfold px_if at hr
  split at hr
  · cases hr
    exact fun H locs ls hW hl k => lv_if_ge X.1 X.2.1 hdg ht (fun hP => by have q := k _ _ _ hW hl; dsimp only at q; rw [decide_eq_true hP] at q; exact q) (fun hP => by have q := k _ _ _ hW hl; dsimp only at q; rw [decide_eq_false hP] at q; exact q)
  · cases hr
theorem ok_icmp_ge {off : Int} {t : Nat} (ht : (pc : Int) + off = (t : Int)) (hdg : decode cc pc = .ok (.if_icmp .ge off, 3)) : px_ok mm own cc nL ret pc (px_icmp (fun x y => decide (y ≤ x)) t) := by
  intro p l e R s m args below meth c cells slots Q A ad D tc cb X _ lv st h r hr
  unfold px_icmp at hr
  split at hr
  · cases hr
    exact fun H locs ls hW hl k => lv_icmp_ge X.1 X.2.1 hdg ht (fun hP => by have q := k _ _ _ hW hl; dsimp only at q; rw [decide_eq_true hP] at q; exact q) (fun hP => by have q := k _ _ _ hW hl; dsimp only at q; rw [decide_eq_false hP] at q; exact q)
  · cases hr
theorem ok_if_gt {off : Int} {t : Nat} (ht : (pc : Int) + off = (t : Int)) (hdg : decode cc pc = .ok (.ifCond .gt off, 3)) : px_ok mm own cc nL ret pc (px_if (fun x => decide (0 < x)) t) := by
  intro p l e R s m args below meth c cells slots Q A ad D tc cb X _ lv st h r hr
  unfold px_if at hr
  split at hr
  · cases hr
    exact fun H locs ls hW hl k => lv_if_gt X.1 X.2.1 hdg ht (fun hP => by have q := k _ _ _ hW hl; dsimp only at q; rw [decide_eq_true hP] at q; exact q) (fun hP => by have q := k _ _ _ hW hl; dsimp only at q; rw [decide_eq_false hP] at q; exact q)
  · cases hr
theorem ok_icmp_gt {off : Int} {t : Nat} (ht : (pc : Int) + off = (t : Int)) (hdg : decode cc pc = .ok (.if_icmp .gt off, 3)) : px_ok mm own cc nL ret pc (px_icmp (fun x y => decide (y < x)) t) := by
  intro p l e R s m args below meth c cells slots Q A ad D tc cb X _ lv st h r hr
  unfold px_icmp at hr
  split at hr
  · cases hr
    exact fun H locs ls hW hl k => lv_icmp_gt X.1 X.2.1 hdg ht (fun hP => by have q := k _ _ _ hW hl; dsimp only at q; rw [decide_eq_true hP] at q; exact q) (fun hP => by have q := k _ _ _ hW hl; dsimp only at q; rw [decide_eq_false hP] at q; exact q)
  · cases hr
theorem ok_if_le {off : Int} {t : Nat} (ht : (pc : Int) + off = (t : Int)) (hdg : decode cc pc = .ok (.ifCond .le off, 3)) : px_ok mm own cc nL ret pc (px_if (fun x => decide (x ≤ 0)) t) := by
  intro p l e R s m args below meth c cells slots Q A ad D tc cb X _ lv st h r hr
  unfold px_if at hr
  split at hr
  · cases hr
    exact fun H locs ls hW hl k => lv_if_le X.1 X.2.1 hdg ht (fun hP => by have q := k _ _ _ hW hl; dsimp only at q; rw [decide_eq_true hP] at q; exact q) (fun hP => by have q := k _ _ _ hW hl; dsimp only at q; rw [decide_eq_false hP] at q; exact q)
  · cases hr
theorem ok_icmp_le {off : Int} {t : Nat} (ht : (pc : Int) + off = (t : Int)) (hdg : decode cc pc = .ok (.if_icmp .le off, 3)) : px_ok mm own cc nL ret pc (px_icmp (fun x y => decide (x ≤ y)) t) := by
  intro p l e R s m args below meth c cells slots Q A ad D tc cb X _ lv st h r hr
  unfold px_icmp at hr
  split at hr
  · cases hr
    exact fun H locs ls hW hl k => lv_icmp_le X.1 X.2.1 hdg ht (fun hP => by have q := k _ _ _ hW hl; dsimp only at q; rw [decide_eq_true hP] at q; exact q) (fun hP => by have q := k _ _ _ hW hl; dsimp only at q; rw [decide_eq_false hP] at q; exact q)
  · cases hr
theorem ok_ifnull {off : Int} {t : Nat} (ht : (pc : Int) + off = (t : Int)) (hdg : decode cc pc = .ok (.ifnull off, 3)) : px_ok mm own cc nL ret pc (px_ifnull t) := by
  intro p l e R s m args below meth c cells slots Q A ad D tc cb X _ lv st h r hr
  unfold px_ifnull at hr
  split at hr
  · cases hr
    exact fun H locs ls hW hl k => lv_ifnullN X.1 X.2.1 hdg ht (k _ _ _ hW hl)
  · cases hr
    exact fun H locs ls hW hl k => lv_ifnull X.1 X.2.1 hdg (k _ _ _ hW hl)
  · cases hr
theorem ok_ifnonnull {off : Int} {t : Nat} (ht : (pc : Int) + off = (t : Int)) (hdg : decode cc pc = .ok (.ifnonnull off, 3)) : px_ok mm own cc nL ret pc (px_ifnn t) := by
  intro p l e R s m args below meth c cells slots Q A ad D tc cb X _ lv st h r hr
  unfold px_ifnn at hr
  split at hr
  · cases hr
    exact fun H locs ls hW hl k => lv_ifnonnullN X.1 X.2.1 hdg (k _ _ _ hW hl)
  · cases hr
    exact fun H locs ls hW hl k => lv_ifnonnull X.1 X.2.1 hdg ht (k _ _ _ hW hl)
  · cases hr
/-- a table's offsets and its targets -/
def px_offs (pc : Nat) : List Int → List Nat → Bool
  | [], [] => true
  | o :: os, t :: ts => decide ((pc : Int) + o = (t : Int)) && px_offs pc os ts
  | _, _ => false
theorem px_offs_at {pc : Nat} : ∀ (os : List Int) (ts : List Nat), px_offs pc os ts = true → os.length = ts.length ∧ ∀ (j : Nat) (t : Nat), px_nth ts j = some t → ∃ o, os[j]? = some o ∧ (pc : Int) + o = (t : Int)
  | [], [], _ => ⟨rfl, fun j t h => by cases h⟩
  | [], _ :: _, h => by cases h
  | _ :: _, [], h => by cases h
  | o :: os, t :: ts, h => by
    unfold px_offs at h
    rw [Bool.and_eq_true, decide_eq_true_eq] at h
    obtain ⟨h1, h2⟩ := px_offs_at os ts h.2
    refine ⟨by simp [h1], fun j q hq => ?_⟩
    cases j with
    | zero => cases hq; exact ⟨o, rfl, h.1⟩
    | succ j => exact h2 j q hq
theorem ok_tableswitch {dflt lo hi : Int} {offs : Array Int} {len d : Nat} {ts : List Nat} (hd : (pc : Int) + dflt = (d : Int)) (ho : px_offs pc offs.toList ts = true) (hh : hi + 1 = lo + (ts.length : Int)) (hdg : decode cc pc = .ok (.tableswitch dflt lo hi offs, len)) : px_ok mm own cc nL ret pc (px_tsw lo ts d) := by
  intro p l e R s m args below meth c cells slots Q A ad D tc cb X _ lv st h r hr
  unfold px_tsw at hr
  split at hr
  · next x rest =>
    cases hr
    obtain ⟨hlen, hat⟩ := px_offs_at _ _ ho
    intro H locs ls hW hl k
    have q := k _ _ _ hW hl
    by_cases h1 : x.toInt < lo
    · refine lv_tableOut X.1 X.2.1 hdg (Or.inl h1) hd ?_
      unfold px_sw at q
      rw [decide_eq_true h1] at q
      exact q
    · unfold px_sw at q
      rw [decide_eq_false h1] at q
      cases hn : px_nth ts (x.toInt - lo).toNat with
      | none =>
        rw [hn] at q
        refine lv_tableOut X.1 X.2.1 hdg (Or.inr ?_) hd q
        rw [px_nth_get] at hn
        have := List.getElem?_eq_none_iff.mp hn
        omega
      | some t =>
        rw [hn] at q
        obtain ⟨o, e1, e2⟩ := hat _ _ hn
        have hlt := px_nth_lt _ _ _ hn
        exact lv_tableIn X.1 X.2.1 hdg h1 (by omega) (by rw [← Array.getElem?_toList]; exact e1) e2 q
  · cases hr
/-- a lookup's pairs and its targets -/
def px_prs (pc : Nat) : List (Int × Int) → List (Int × Nat) → Bool
  | [], [] => true
  | o :: os, t :: ts => decide (o.1 = t.1 ∧ (pc : Int) + o.2 = (t.2 : Int)) && px_prs pc os ts
  | _, _ => false
theorem px_prs_at {pc d : Nat} {dflt : Int} (hd : (pc : Int) + dflt = (d : Int)) (k : Int) : ∀ (os : List (Int × Int)) (ts : List (Int × Nat)), px_prs pc os ts = true → (pc : Int) + Op.lookupswitch.offset os dflt k = (px_lk ts d k : Int)
  | [], [], _ => hd
  | [], _ :: _, h => by cases h
  | _ :: _, [], h => by cases h
  | (a, o) :: os, (b, t) :: ts, h => by
    unfold px_prs at h
    rw [Bool.and_eq_true, decide_eq_true_eq] at h
    obtain ⟨⟨h1, h2⟩, h3⟩ := h
    have ih := px_prs_at hd k os ts h3
    dsimp only at h1 h2
    show (pc : Int) + (if a = k then o else Op.lookupswitch.offset os dflt k) = ((cond (decide (b = k)) t (px_lk ts d k) : Nat) : Int)
    rw [← h1]
    by_cases hk : a = k
    · rw [if_pos hk, decide_eq_true hk]; exact h2
    · rw [if_neg hk, decide_eq_false hk]; exact ih
theorem ok_lookupswitch {dflt : Int} {ps : Array (Int × Int)} {len d : Nat} {ts : List (Int × Nat)} (hd : (pc : Int) + dflt = (d : Int)) (ho : px_prs pc ps.toList ts = true) (hp : (ps.toList.zip (ps.toList.drop 1)).all (fun (a, next) => a.1 < next.1) = true) (hdg : decode cc pc = .ok (.lookupswitch dflt ps, len)) : px_ok mm own cc nL ret pc (px_lsw ts d) := by
  intro p l e R s m args below meth c cells slots Q A ad D tc cb X _ lv st h r hr
  unfold px_lsw at hr
  split at hr
  · next x rest =>
    cases hr
    intro H locs ls hW hl k
    exact lv_lookup X.1 X.2.1 hdg hp rfl (px_prs_at hd _ _ _ ho) (k _ _ _ hW hl)
  · cases hr
theorem px_Wd.get {D : va_G} {tc : Nat → ClassId} {ad : Nat → Nat} {A : Nat → Prop} {H0 : Heap} {h : px_H} {H : Heap} {locs : List Loc} (hW : px_Wd D tc ad A H0 h H locs) : va_P D vwCl (px_ws tc ad h) H := hW.1
theorem px_mv_nth (ad : Nat → Nat) {fs : List Value} {k : Nat} {v : Value} (h : px_nth fs k = some v) : (fs.map (px_mv ad))[k]? = some (px_mv ad v) := by
  rw [px_nth_get] at h
  rw [List.getElem?_map, h]
  rfl
theorem ok_getfield {ci k i N : Nat} {C : String} {T : u_T} (hc : vwCl[ci]? = some (C, T, N)) (hin : ∀ w ∈ u_ws C T N, w ∈ px_words) (hk : k < N) (hw : Cond.fieldLink own i (T k).1 (T k).2.1 (T k).2.2.1 ∈ px_words) (hdg : decode cc pc = .ok (.getfield i, 3)) : px_ok mm own cc nL ret pc (px_getf ci k) := by
  intro p l e R s m args below meth c cells slots Q A ad D tc cb X _ lv st h r hr
  unfold px_getf at hr
  split at hr
  · next a rest =>
    split at hr
    · next cj fs hcell =>
      cases hb : Nat.beq cj ci with
      | false => rw [hb] at hr; cases hr
      | true =>
        rw [hb] at hr
        have hcj := Nat.eq_of_beq_eq_true hb
        subst hcj
        dsimp only [cond] at hr
        split at hr
        · next v hv =>
          cases hr
          intro H locs ls hW hl kk
          have hg := px_ws_get tc ad hcell
          exact va_get (D := D) X.1 X.2.1 X.2.2.2.2.1 hin X.2.2.2.1 X.2.2.2.2.2.1 hW.1 _ hg hc k hk (X.2.2.2.2.1 _ hw) (fun _ h9 => h9) (px_mv_nth ad hv) hdg (kk _ _ _ hW hl)
        · cases hr
    · cases hr
  · cases hr
theorem px_mv_stn (ad : Nat → Nat) (v : Value) : ∀ (fs : List Value) (k : Nat), (fs.map (px_mv ad)).set k (px_mv ad v) = (px_stn fs k v).map (px_mv ad)
  | [], _ => rfl
  | _ :: _, 0 => rfl
  | f :: r, k + 1 => by
    show px_mv ad f :: (r.map (px_mv ad)).set k (px_mv ad v) = px_mv ad f :: (px_stn r k v).map (px_mv ad)
    rw [px_mv_stn ad v r k]
theorem px_bool {x : Int32} (h : (x == 0 || x == 1) = true) : narrow .boolean (.int x) = .int x ∧ fits .boolean (.int x) = true := by
  refine ⟨?_, h⟩
  rcases Bool.or_eq_true_iff.mp h with q | q
  · rw [eq_of_beq q]; rfl
  · rw [eq_of_beq q]; rfl
theorem ok_putfield {z : Bool} {ci k i N : Nat} {C : String} {T : u_T} {ty0 : Nat → FieldType} {ty : FieldType} (hc : vwCl[ci]? = some (C, T, N)) (hin : ∀ w ∈ u_ws C T N, w ∈ px_words) (hty : ∀ k, k < N → parseFieldDescriptor (T k).2.2.1 = some (ty0 k)) (hnm : ∀ a, a < N → ∀ b, b < N → a ≠ b → (T a).2.1 ≠ (T b).2.1) (hk : k < N)
    (hfin : (T k).2.2.2 = false) (hd : parseFieldDescriptor (T k).2.2.1 = some ty) (hz : (z = true ∧ ty = .int) ∨ (z = false ∧ ty = .boolean)) (hw : Cond.fieldLink own i (T k).1 (T k).2.1 (T k).2.2.1 ∈ px_words) (hdg : decode cc pc = .ok (.putfield i, 3)) : px_ok mm own cc nL ret pc (px_putf z ci k) := by
  intro p l e R s m args below meth c cells slots Q A ad D tc cb X _ lv st h r hr
  unfold px_putf at hr
  split at hr
  · next x a rest =>
    split at hr
    · next cj fs hcell =>
      cases hb : (Nat.beq cj ci && Nat.blt k fs.length && (z || x == 0 || x == 1)) with
      | false => rw [hb] at hr; cases hr
      | true =>
        rw [hb] at hr
        rw [Bool.and_eq_true, Bool.and_eq_true] at hb
        have hcj := Nat.eq_of_beq_eq_true hb.1.1
        subst hcj
        cases hr
        have hlt := px_blt.mp hb.1.2
        have hty2 : narrow ty (.int x) = .int x ∧ fits ty (.int x) = true := by
          rcases hz with ⟨h1, h2⟩ | ⟨h1, h2⟩
          · subst h2; exact ⟨rfl, rfl⟩
          · subst h2
            have h3 := hb.2
            rw [h1, Bool.false_or] at h3
            exact px_bool h3
        intro H locs ls hW hl kk
        have hg := px_ws_get tc ad hcell
        refine va_put (D := D) X.1 X.2.1 X.2.2.2.2.1 hin ty0 hty hnm X.2.2.2.1 X.2.2.2.2.2.1 hW.1 hW.2.1 hW.2.2 _ hg hc k hk (X.2.2.2.2.1 _ hw) (fun _ h9 => h9) hfin hd hty2.1 hty2.2 (by rw [List.length_map]; exact hlt) hdg (fun H1 locs1 a1 a2 a3 => ?_)
        have e1 : (ad a, (.inr (cj, (fs.map (px_mv ad)).set k (px_mv ad (.int x))) : va_E)) = (ad a, px_me tc ad (.inr (cj, px_stn fs k (.int x)))) := by
          show _ = (ad a, (.inr (cj, (px_stn fs k (.int x)).map (px_mv ad)) : va_E))
          rw [← px_mv_stn]
        rw [e1, px_ws_set tc ad _ hcell] at a1 a2
        exact kk _ _ _ ⟨a1, a2, a3⟩ hl
    · cases hr
  · cases hr
theorem px_inb_ok {i : Int32} {n : Nat} (h : px_inb i n = true) : vp_in i n := by
  unfold px_inb at h
  rw [Bool.and_eq_true, decide_eq_true_eq] at h
  have h2 := px_blt.mp h.2
  intro q
  rcases q with q | q
  · exact absurd h.1 (by rw [Int32.not_le]; exact q)
  · omega
theorem px_arr_r {h : px_H} {a n : Nat} {f : Nat → Int32} (hr : px_arr h a = some (n, f)) : px_cell h a = some (.inl (0, n, .inl f)) := by
  unfold px_arr at hr
  split at hr
  · next t n' f' hc =>
    cases hb : Nat.beq t 0 with
    | false => rw [hb] at hr; cases hr
    | true =>
      rw [hb] at hr
      cases hr
      rw [hc, Nat.eq_of_beq_eq_true hb]
  · cases hr
theorem ok_iaload (hdg : decode cc pc = .ok (.iaload, 1)) : px_ok mm own cc nL ret pc px_iald := by
  intro p l e R s m args below meth c cells slots Q A ad D tc cb X _ lv st h r hr
  unfold px_iald at hr
  split at hr
  · next i a rest =>
    split at hr
    · next n f ha =>
      cases hb : px_inb i n with
      | false => rw [hb] at hr; cases hr
      | true =>
        rw [hb] at hr
        cases hr
        intro H locs ls hW hl kk
        exact va_iald (D := D) X.1 X.2.1 X.2.2.2.2.2.1 hW.1 _ 0 (px_ws_get tc ad (px_arr_r ha)) rfl (px_inb_ok hb) hdg (kk _ _ _ hW hl)
    · cases hr
  · cases hr
theorem ok_kaload (hdg : decode cc pc = .ok (.iaload, 1)) : px_ok mm own cc nL ret pc px_kald := by
  intro p l e R s m args below meth c cells slots Q A ad D tc cb X _ lv st h r hr
  obtain ⟨hx, hb0, hml, hown, hts, hK, hf1, hf2, hf3, hf4, hKC, hA⟩ := X
  unfold px_kald at hr
  split at hr
  · next i a rest =>
    cases hb : px_inb i 6 with
    | false => rw [hb] at hr; cases hr
    | true =>
      rw [hb] at hr
      cases h0 : Nat.beq a 3000 with
      | true =>
        rw [h0] at hr
        cases hr
        have := Nat.eq_of_beq_eq_true h0
        subst this
        intro H locs ls hW hl kk
        exact va_ti hx hb0 hKC.1.2 hW.2.2 (px_inb_ok hb) rfl hdg (kk _ _ _ hW hl)
      | false =>
        rw [h0] at hr
        cases h1 : Nat.beq a 3001 with
        | false => rw [h1] at hr; cases hr
        | true =>
          rw [h1] at hr
          cases hr
          have := Nat.eq_of_beq_eq_true h1
          subst this
          intro H locs ls hW hl kk
          exact va_ti hx hb0 hKC.2.1.2 hW.2.2 (px_inb_ok hb) rfl hdg (kk _ _ _ hW hl)
  · cases hr
theorem px_isK_r {a : Nat} (h : px_isK a = true) : a = 3002 ∨ a = 3003 := by
  unfold px_isK at h
  rw [Bool.or_eq_true] at h
  rcases h with h | h
  · exact Or.inl (Nat.eq_of_beq_eq_true h)
  · exact Or.inr (Nat.eq_of_beq_eq_true h)
theorem ok_strv {i : Nat} (hw : Cond.fieldLink own i "java/lang/String" "value" "[B" ∈ px_words) (hdg : decode cc pc = .ok (.getfield i, 3)) : px_ok mm own cc nL ret pc px_strv := by
  intro p l e R s m args below meth c cells slots Q A ad D tc cb X _ lv st h r hr
  obtain ⟨hx, hb0, hml, hown, hts, hK, hf1, hf2, hf3, hf4, hKC, hA⟩ := X
  unfold px_strv at hr
  split at hr
  · next a rest =>
    cases hb : px_isK a with
    | false => rw [hb] at hr; cases hr
    | true =>
      rw [hb] at hr
      cases hr
      rcases px_isK_r hb with e | e
      · subst e
        exact fun H locs ls hW hl k => vk_getf hx hb0 ((hKC.2.2.2.2.2.2.1 0 (by decide)).2.2.1) hW.2.2 hown (hts _ hw) (fun _ q => q) hdg (k _ _ _ hW hl)
      · subst e
        exact fun H locs ls hW hl k => vk_getf hx hb0 ((hKC.2.2.2.2.2.2.1 1 (by decide)).2.2.1) hW.2.2 hown (hts _ hw) (fun _ q => q) hdg (k _ _ _ hW hl)
  · cases hr
theorem ok_strc {i : Nat} (hw : Cond.fieldLink own i "java/lang/String" "coder" "B" ∈ px_words) (hdg : decode cc pc = .ok (.getfield i, 3)) : px_ok mm own cc nL ret pc px_strc := by
  intro p l e R s m args below meth c cells slots Q A ad D tc cb X _ lv st h r hr
  obtain ⟨hx, hb0, hml, hown, hts, hK, hf1, hf2, hf3, hf4, hKC, hA⟩ := X
  unfold px_strc at hr
  split at hr
  · next a rest =>
    cases hb : px_isK a with
    | false => rw [hb] at hr; cases hr
    | true =>
      rw [hb] at hr
      cases hr
      rcases px_isK_r hb with e | e
      · subst e
        exact fun H locs ls hW hl k => vk_getf hx hb0 ((hKC.2.2.2.2.2.2.1 0 (by decide)).2.1) hW.2.2 hown (hts _ hw) (fun _ q => q) hdg (k _ _ _ hW hl)
      · subst e
        exact fun H locs ls hW hl k => vk_getf hx hb0 ((hKC.2.2.2.2.2.2.1 1 (by decide)).2.1) hW.2.2 hown (hts _ hw) (fun _ q => q) hdg (k _ _ _ hW hl)
  · cases hr
theorem px_strT0 {ad : Nat → Nat} {A : Nat → Prop} {U : State} {H : Heap} (hKC : px_KC ad A U H) : va_T .byte (ad 3012) 3 (fun j => .int (px_K2 j)) A U H := (hKC.2.2.2.2.2.2.1 0 (by decide)).2.2.2
theorem px_strT1 {ad : Nat → Nat} {A : Nat → Prop} {U : State} {H : Heap} (hKC : px_KC ad A U H) : va_T .byte (ad 3013) 3 (fun j => .int (px_K3 j)) A U H := (hKC.2.2.2.2.2.2.1 1 (by decide)).2.2.2
theorem ok_bald (hdg : decode cc pc = .ok (.baload, 1)) : px_ok mm own cc nL ret pc px_bald := by
  intro p l e R s m args below meth c cells slots Q A ad D tc cb X _ lv st h r hr
  obtain ⟨hx, hb0, hml, hown, hts, hK, hf1, hf2, hf3, hf4, hKC, hA⟩ := X
  unfold px_bald at hr
  split at hr
  · next i a rest =>
    cases hb : px_inb i 3 with
    | false => rw [hb] at hr; cases hr
    | true =>
      rw [hb] at hr
      cases h0 : Nat.beq a 3012 with
      | true =>
        rw [h0] at hr
        cases hr
        have := Nat.eq_of_beq_eq_true h0
        subst this
        intro H locs ls hW hl kk
        exact va_tb hx hb0 (px_strT0 hKC) hW.2.2 (px_inb_ok hb) rfl hdg (kk _ _ _ hW hl)
      | false =>
        rw [h0] at hr
        cases h1 : Nat.beq a 3013 with
        | false => rw [h1] at hr; cases hr
        | true =>
          rw [h1] at hr
          cases hr
          have := Nat.eq_of_beq_eq_true h1
          subst this
          intro H locs ls hW hl kk
          exact va_tb hx hb0 (px_strT1 hKC) hW.2.2 (px_inb_ok hb) rfl hdg (kk _ _ _ hW hl)
  · cases hr
theorem ok_slen (hdg : decode cc pc = .ok (.arraylength, 1)) : px_ok mm own cc nL ret pc px_slen := by
  intro p l e R s m args below meth c cells slots Q A ad D tc cb X _ lv st h r hr
  obtain ⟨hx, hb0, hml, hown, hts, hK, hf1, hf2, hf3, hf4, hKC, hA⟩ := X
  unfold px_slen at hr
  split at hr
  · next a rest =>
    cases h0 : Nat.beq a 3012 with
    | true =>
      rw [h0] at hr
      cases hr
      have := Nat.eq_of_beq_eq_true h0
      subst this
      intro H locs ls hW hl kk
      exact va_tlen hx hb0 (px_strT0 hKC) hW.2.2 rfl hdg (kk _ _ _ hW hl)
    | false =>
      rw [h0] at hr
      cases h1 : Nat.beq a 3013 with
      | false => rw [h1] at hr; cases hr
      | true =>
        rw [h1] at hr
        cases hr
        have := Nat.eq_of_beq_eq_true h1
        subst this
        intro H locs ls hW hl kk
        exact va_tlen hx hb0 (px_strT1 hKC) hW.2.2 rfl hdg (kk _ _ _ hW hl)
  · cases hr
theorem ok_iastore (hdg : decode cc pc = .ok (.iastore, 1)) : px_ok mm own cc nL ret pc px_iast := by
  intro p l e R s m args below meth c cells slots Q A ad D tc cb X _ lv st h r hr
  unfold px_iast at hr
  split at hr
  · next x i a rest =>
    split at hr
    · next n f ha =>
      cases hb : px_inb i n with
      | false => rw [hb] at hr; cases hr
      | true =>
        rw [hb] at hr
        cases hr
        intro H locs ls hW hl kk
        refine va_iast (D := D) X.1 X.2.1 X.2.2.2.2.2.1 hW.1 hW.2.1 hW.2.2 _ 0 (px_ws_get tc ad (px_arr_r ha)) rfl (px_inb_ok hb) hdg (fun H1 locs1 a1 a2 a3 => ?_)
        have e1 : (ad a, (.inl (tc 0, n, .inl (upd f i.toNatClampNeg x)) : va_E)) = (ad a, px_me tc ad (.inl (0, n, .inl (upd f i.toNatClampNeg x)))) := rfl
        have b1 := a1
        have b2 := a2
        erw [e1, px_ws_set tc ad _ (px_arr_r ha)] at b1
        erw [e1, px_ws_set tc ad _ (px_arr_r ha)] at b2
        exact kk _ _ _ ⟨b1, b2, a3⟩ hl
    · cases hr
  · cases hr
theorem ok_aaload (hdg : decode cc pc = .ok (.aaload, 1)) : px_ok mm own cc nL ret pc px_aald := by
  intro p l e R s m args below meth c cells slots Q A ad D tc cb X _ lv st h r hr
  unfold px_aald at hr
  split at hr
  · next i a rest =>
    split at hr
    · next t n f ha =>
      cases hb : (Nat.beq t 1 && px_inb i n) with
      | false => rw [hb] at hr; cases hr
      | true =>
        rw [hb] at hr
        rw [Bool.and_eq_true] at hb
        have := Nat.eq_of_beq_eq_true hb.1
        subst this
        dsimp only [cond] at hr
        have hg := px_ws_get tc ad ha
        split at hr
        · next k hk =>
          cases hr
          intro H locs ls hW hl kk
          refine va_aldq (D := D) X.1 X.2.1 X.2.2.2.2.2.1 hW.1 _ 1 hg rfl (px_inb_ok hb.2) hdg ?_
          have q := kk _ _ _ hW hl
          rw [hk]
          exact q
        · next hk =>
          cases hr
          intro H locs ls hW hl kk
          refine va_aldq (D := D) X.1 X.2.1 X.2.2.2.2.2.1 hW.1 _ 1 hg rfl (px_inb_ok hb.2) hdg ?_
          have q := kk _ _ _ hW hl
          rw [hk]
          exact q
    · cases hr
  · cases hr
theorem ok_arraylength (hdg : decode cc pc = .ok (.arraylength, 1)) : px_ok mm own cc nL ret pc px_alen := by
  intro p l e R s m args below meth c cells slots Q A ad D tc cb X _ lv st h r hr
  unfold px_alen at hr
  split at hr
  · next a rest =>
    split at hr
    · next t n f ha =>
      cases hb : Nat.beq t 0 with
      | false => rw [hb] at hr; cases hr
      | true =>
        rw [hb] at hr
        cases hr
        have := Nat.eq_of_beq_eq_true hb
        subst this
        intro H locs ls hW hl kk
        exact va_alen (D := D) X.1 X.2.1 X.2.2.2.2.2.1 hW.1 _ 0 (px_ws_get tc ad ha) rfl rfl hdg (kk _ _ _ hW hl)
    · next t n f ha =>
      cases hb : Nat.beq t 1 with
      | false => rw [hb] at hr; cases hr
      | true =>
        rw [hb] at hr
        cases hr
        have := Nat.eq_of_beq_eq_true hb
        subst this
        intro H locs ls hW hl kk
        exact va_alen (D := D) X.1 X.2.1 X.2.2.2.2.2.1 hW.1 _ 1 (px_ws_get tc ad ha) rfl rfl hdg (kk _ _ _ hW hl)
    · cases hr
  · cases hr
end PXROWS
end
