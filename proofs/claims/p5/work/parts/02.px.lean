/-! THE PURE MACHINE: steps of a method over a picture of the heap whose references are places; what it says holds of the machine (px_sound) -/
abbrev px_L : Type := List (Option Value)
abbrev px_H : Type := List va_E × List va_E
abbrev px_N : Type := (Nat × px_L × List Value × px_H) ⊕ (Option Value × px_H)
abbrev px_C : Type := Nat → List Value → px_H → Option (Option Value × px_H)
abbrev px_A : Type := px_C → Nat → px_L → List Value → px_H → Option px_N
def px_nth {α : Type} : List α → Nat → Option α
  | [], _ => none
  | a :: _, 0 => some a
  | _ :: r, n + 1 => px_nth r n
def px_stn {α : Type} : List α → Nat → α → List α
  | [], _, _ => []
  | _ :: r, 0, b => b :: r
  | a :: r, n + 1, b => a :: px_stn r n b
def px_get : px_L → Nat → Option Value
  | [], _ => none
  | o :: _, 0 => o
  | _ :: r, n + 1 => px_get r n
def px_c2 : Value → Bool
  | .long _ => true
  | .double _ => true
  | _ => false
/-- what is left of a place when the next one is stored to -/
def px_kl : Option Value → Option Value
  | some (.long _) => none
  | some (.double _) => none
  | o => o
def px_set : px_L → Nat → Value → px_L
  | [], _, _ => []
  | _ :: r, 0, v => some v :: r
  | o :: r, n + 1, v => cond (Nat.beq n 0) (px_kl o) o :: px_set r n v
def px_nones : Nat → px_L
  | 0 => []
  | n + 1 => none :: px_nones n
/-- a method's locals at its start -/
def px_args : Nat → List Value → px_L
  | n, [] => px_nones n
  | n, v :: r => cond (px_c2 v) (some v :: none :: px_args (n - 2) r) (some v :: px_args (n - 1) r)
def px_cell (h : px_H) (k : Nat) : Option va_E := cond (Nat.blt k 1000) (px_nth h.1 k) (px_nth h.2 (k - 1000))
def px_put (h : px_H) (k : Nat) (e : va_E) : px_H := cond (Nat.blt k 1000) (px_stn h.1 k e, h.2) (h.1, px_stn h.2 (k - 1000) e)
def px_inb (i : Int32) (n : Nat) : Bool := decide (0 ≤ i) && Nat.blt i.toNatClampNeg n
def px_cat : List Value → Nat
  | [] => 0
  | v :: r => v.category + px_cat r
def px_pop : Nat → List Value → List Value → Option (List Value × List Value)
  | 0, st, acc => some (acc, st)
  | _ + 1, [], _ => none
  | n + 1, v :: st, acc => px_pop n st (v :: acc)
def px_tl (v : Option Value) (rest : List Value) : List Value := match v with
  | some x => x :: rest
  | none => rest
-- the steps
def px_pushi (v : Int32) (n : Nat) : px_A := fun _ pc lv st h => some (.inl (pc + n, lv, .int v :: st, h))
def px_pushl (v : Int64) (n : Nat) : px_A := fun _ pc lv st h => some (.inl (pc + n, lv, .long v :: st, h))
def px_pushr (k n : Nat) : px_A := fun _ pc lv st h => some (.inl (pc + n, lv, .ref k :: st, h))
def px_pushn : px_A := fun _ pc lv st h => some (.inl (pc + 1, lv, .null :: st, h))
def px_ild (i n : Nat) : px_A := fun _ pc lv st h => match px_get lv i with
  | some (.int x) => some (.inl (pc + n, lv, .int x :: st, h))
  | _ => none
def px_lld (i n : Nat) : px_A := fun _ pc lv st h => match px_get lv i with
  | some (.long x) => some (.inl (pc + n, lv, .long x :: st, h))
  | _ => none
def px_ald (i n : Nat) : px_A := fun _ pc lv st h => match px_get lv i with
  | some (.ref x) => some (.inl (pc + n, lv, .ref x :: st, h))
  | some .null => some (.inl (pc + n, lv, .null :: st, h))
  | _ => none
def px_ist (i n : Nat) : px_A := fun _ pc lv st h => match st with
  | .int x :: r => some (.inl (pc + n, px_set lv i (.int x), r, h))
  | _ => none
def px_ast (i n : Nat) : px_A := fun _ pc lv st h => match st with
  | .ref x :: r => some (.inl (pc + n, px_set lv i (.ref x), r, h))
  | .null :: r => some (.inl (pc + n, px_set lv i .null, r, h))
  | _ => none
def px_iinc (i : Nat) (c : Int32) : px_A := fun _ pc lv st h => match px_get lv i with
  | some (.int x) => some (.inl (pc + 3, px_set lv i (.int (x + c)), st, h))
  | _ => none
def px_dup : px_A := fun _ pc lv st h => match st with
  | .int x :: r => some (.inl (pc + 1, lv, .int x :: .int x :: r, h))
  | .ref x :: r => some (.inl (pc + 1, lv, .ref x :: .ref x :: r, h))
  | _ => none
def px_dup2 : px_A := fun _ pc lv st h => match st with
  | .int x :: .ref y :: r => some (.inl (pc + 1, lv, .int x :: .ref y :: .int x :: .ref y :: r, h))
  | _ => none
def px_popi : px_A := fun _ pc lv st h => match st with
  | .int _ :: r => some (.inl (pc + 1, lv, r, h))
  | _ => none
def px_bin (f : Int32 → Int32 → Int32) : px_A := fun _ pc lv st h => match st with
  | .int y :: .int x :: r => some (.inl (pc + 1, lv, .int (f x y) :: r, h))
  | _ => none
def px_bin0 (f : Int32 → Int32 → Int32) : px_A := fun _ pc lv st h => match st with
  | .int y :: .int x :: r => cond (decide (y = 0)) none (some (.inl (pc + 1, lv, .int (f x y) :: r, h)))
  | _ => none
def px_un (f : Int32 → Int32) : px_A := fun _ pc lv st h => match st with
  | .int x :: r => some (.inl (pc + 1, lv, .int (f x) :: r, h))
  | _ => none
def px_i2l : px_A := fun _ pc lv st h => match st with
  | .int x :: r => some (.inl (pc + 1, lv, .long x.toInt64 :: r, h))
  | _ => none
def px_l2i : px_A := fun _ pc lv st h => match st with
  | .long x :: r => some (.inl (pc + 1, lv, .int x.toInt32 :: r, h))
  | _ => none
def px_lbin (f : Int64 → Int64 → Int64) : px_A := fun _ pc lv st h => match st with
  | .long y :: .long x :: r => some (.inl (pc + 1, lv, .long (f x y) :: r, h))
  | _ => none
def px_lsh (f : Int64 → Int32 → Int64) : px_A := fun _ pc lv st h => match st with
  | .int y :: .long x :: r => some (.inl (pc + 1, lv, .long (f x y) :: r, h))
  | _ => none
def px_goto (t : Nat) : px_A := fun _ _ lv st h => some (.inl (t, lv, st, h))
def px_if (f : Int32 → Bool) (t : Nat) : px_A := fun _ pc lv st h => match st with
  | .int x :: r => some (.inl (cond (f x) t (pc + 3), lv, r, h))
  | _ => none
def px_icmp (f : Int32 → Int32 → Bool) (t : Nat) : px_A := fun _ pc lv st h => match st with
  | .int y :: .int x :: r => some (.inl (cond (f x y) t (pc + 3), lv, r, h))
  | _ => none
def px_ifnull (t : Nat) : px_A := fun _ pc lv st h => match st with
  | .null :: r => some (.inl (t, lv, r, h))
  | .ref _ :: r => some (.inl (pc + 3, lv, r, h))
  | _ => none
def px_ifnn (t : Nat) : px_A := fun _ pc lv st h => match st with
  | .null :: r => some (.inl (pc + 3, lv, r, h))
  | .ref _ :: r => some (.inl (t, lv, r, h))
  | _ => none
def px_sw (lo : Int) (ts : List Nat) (d : Nat) (x : Int) : Nat := cond (decide (x < lo)) d (match px_nth ts (x - lo).toNat with
  | some t => t
  | none => d)
def px_tsw (lo : Int) (ts : List Nat) (d : Nat) : px_A := fun _ _ lv st h => match st with
  | .int x :: r => some (.inl (px_sw lo ts d x.toInt, lv, r, h))
  | _ => none
def px_lk : List (Int × Nat) → Nat → Int → Nat
  | [], d, _ => d
  | (a, t) :: r, d, k => cond (decide (a = k)) t (px_lk r d k)
def px_lsw (ps : List (Int × Nat)) (d : Nat) : px_A := fun _ _ lv st h => match st with
  | .int x :: r => some (.inl (px_lk ps d x.toInt, lv, r, h))
  | _ => none
def px_getf (ci k : Nat) : px_A := fun _ pc lv st h => match st with
  | .ref a :: r => match px_cell h a with
    | some (.inr (cj, fs)) => cond (Nat.beq cj ci) (match px_nth fs k with
      | some v => some (.inl (pc + 3, lv, v :: r, h))
      | none => none) none
    | _ => none
  | _ => none
def px_putf (z : Bool) (ci k : Nat) : px_A := fun _ pc lv st h => match st with
  | .int x :: .ref a :: r => match px_cell h a with
    | some (.inr (cj, fs)) => cond (Nat.beq cj ci && Nat.blt k fs.length && (z || x == 0 || x == 1)) (some (.inl (pc + 3, lv, r, px_put h a (.inr (cj, px_stn fs k (.int x)))))) none
    | _ => none
  | _ => none
def px_K0l : List Int32 := [100, 50, 0, -9, 1, 0]
def px_K1l : List Int32 := [4000, 200, 9, 9, 8, 1]
def px_K0 : Nat → Int32 := fun j => px_K0l.getD j 0
def px_K1 : Nat → Int32 := fun j => px_K1l.getD j 0
def px_arr (h : px_H) (a : Nat) : Option (Nat × (Nat → Int32)) := match px_cell h a with
  | some (.inl (t, n, .inl f)) => cond (Nat.beq t 0) (some (n, f)) none
  | _ => none
def px_iald : px_A := fun _ pc lv st h => match st with
  | .int i :: .ref a :: r => match px_arr h a with
    | some (n, f) => cond (px_inb i n) (some (.inl (pc + 1, lv, .int (f i.toNatClampNeg) :: r, h))) none
    | none => none
  | _ => none
def px_kald : px_A := fun _ pc lv st h => match st with
  | .int i :: .ref a :: r => cond (px_inb i 6) (cond (Nat.beq a 3000) (some (.inl (pc + 1, lv, .int (px_K0 i.toNatClampNeg) :: r, h))) (cond (Nat.beq a 3001) (some (.inl (pc + 1, lv, .int (px_K1 i.toNatClampNeg) :: r, h))) none)) none
  | _ => none
/-- the two texts of names: 3002, 3003; their rows of bytes: 3012, 3013 -/
def px_isK (a : Nat) : Bool := Nat.beq a 3002 || Nat.beq a 3003
def px_K2l : List Int32 := [99, 116, 119]
def px_K3l : List Int32 := [104, 110, 107]
def px_K2 : Nat → Int32 := fun j => px_K2l.getD j 0
def px_K3 : Nat → Int32 := fun j => px_K3l.getD j 0
def px_strv : px_A := fun _ pc lv st h => match st with
  | .ref a :: r => cond (px_isK a) (some (.inl (pc + 3, lv, .ref (a + 10) :: r, h))) none
  | _ => none
def px_strc : px_A := fun _ pc lv st h => match st with
  | .ref a :: r => cond (px_isK a) (some (.inl (pc + 3, lv, .int 0 :: r, h))) none
  | _ => none
def px_bald : px_A := fun _ pc lv st h => match st with
  | .int i :: .ref a :: r => cond (px_inb i 3) (cond (Nat.beq a 3012) (some (.inl (pc + 1, lv, .int (px_K2 i.toNatClampNeg) :: r, h))) (cond (Nat.beq a 3013) (some (.inl (pc + 1, lv, .int (px_K3 i.toNatClampNeg) :: r, h))) none)) none
  | _ => none
def px_slen : px_A := fun _ pc lv st h => match st with
  | .ref a :: r => cond (Nat.beq a 3012) (some (.inl (pc + 1, lv, .int 3 :: r, h))) (cond (Nat.beq a 3013) (some (.inl (pc + 1, lv, .int 3 :: r, h))) none)
  | _ => none
def px_iast : px_A := fun _ pc lv st h => match st with
  | .int x :: .int i :: .ref a :: r => match px_arr h a with
    | some (n, f) => cond (px_inb i n) (some (.inl (pc + 1, lv, r, px_put h a (.inl (0, n, .inl (upd f i.toNatClampNeg x)))))) none
    | none => none
  | _ => none
def px_aald : px_A := fun _ pc lv st h => match st with
  | .int i :: .ref a :: r => match px_cell h a with
    | some (.inl (t, n, .inr (.inr (.inr (.inr f))))) => cond (Nat.beq t 1 && px_inb i n) (match f i.toNatClampNeg with
      | some k => some (.inl (pc + 1, lv, .ref k :: r, h))
      | none => some (.inl (pc + 1, lv, .null :: r, h))) none
    | _ => none
  | _ => none
def px_alen : px_A := fun _ pc lv st h => match st with
  | .ref a :: r => match px_cell h a with
    | some (.inl (t, n, .inl _)) => cond (Nat.beq t 0) (some (.inl (pc + 1, lv, .int (Int32.ofNat n) :: r, h))) none
    | some (.inl (t, n, .inr (.inr (.inr (.inr _))))) => cond (Nat.beq t 1) (some (.inl (pc + 1, lv, .int (Int32.ofNat n) :: r, h))) none
    | _ => none
  | _ => none
def px_isO (h : px_H) (b ci : Nat) : Bool := match px_cell h b with
  | some (.inr (cj, _)) => Nat.beq cj ci
  | _ => false
def px_callV (j n ci : Nat) : px_A := fun cb pc lv st h => match px_pop (n + 1) st [] with
  | some (.ref b :: as, rest) => cond (px_isO h b ci && Nat.ble (px_cat rest) 8) (match cb j (.ref b :: as) h with
    | some (v, h') => some (.inl (pc + 3, lv, px_tl v rest, h'))
    | none => none) none
  | _ => none
/-- a call of one of the two texts -/
def px_callK (j n : Nat) : px_A := fun cb pc lv st h => match px_pop (n + 1) st [] with
  | some (.ref b :: as, rest) => cond (px_isK b && Nat.ble (px_cat rest) 8) (match cb j (.ref b :: as) h with
    | some (v, h') => some (.inl (pc + 3, lv, px_tl v rest, h'))
    | none => none) none
  | _ => none
def px_callS (j n : Nat) : px_A := fun cb pc lv st h => match px_pop n st [] with
  | some (as, rest) => cond (Nat.ble (px_cat rest) 8) (match cb j as h with
    | some (v, h') => some (.inl (pc + 3, lv, px_tl v rest, h'))
    | none => none) none
  | _ => none
def px_mx (f : Int32 → Int32 → Int32) : px_A := fun _ pc lv st h => match st with
  | .int y :: .int x :: r => cond (Nat.ble (px_cat r) 8) (some (.inl (pc + 3, lv, .int (f x y) :: r, h))) none
  | _ => none
def px_acopy : px_A := fun _ pc lv st h => match st with
  | .int n :: .int dp :: .ref b :: .int sp :: .ref a :: r => match px_arr h a, px_arr h b with
    | some (n0, f), some (n1, g) => cond (decide (0 ≤ sp) && decide (0 ≤ dp) && decide (0 ≤ n) && Nat.ble (sp.toNatClampNeg + n.toNatClampNeg) n0 && Nat.ble (dp.toNatClampNeg + n.toNatClampNeg) n1 && Nat.ble (px_cat r) 8)
      (some (.inl (pc + 3, lv, r, px_put h b (.inl (0, n1, .inl (va_cpy f g sp.toNatClampNeg dp.toNatClampNeg n.toNatClampNeg)))))) none
    | _, _ => none
  | _ => none
def px_iret : px_A := fun _ _ _ st h => match st with
  | [.int x] => some (.inr (some (.int x), h))
  | _ => none
def px_zret : px_A := fun _ _ _ st h => match st with
  | [.int x] => cond (x == 0 || x == 1) (some (.inr (some (.int x), h))) none
  | _ => none
def px_bret : px_A := fun _ _ _ st h => match st with
  | [.int x] => cond (x == 0) (some (.inr (some (.int x), h))) none
  | _ => none
def px_aret : px_A := fun _ _ _ st h => match st with
  | [.ref x] => some (.inr (some (.ref x), h))
  | [.null] => some (.inr (some .null, h))
  | _ => none
def px_vret : px_A := fun _ _ _ st h => match st with
  | [] => some (.inr (none, h))
  | _ => none
-- a method's code as a tree over its places
def px_node {α : Type} (k : Nat) (l r : Nat → Option α) : Nat → Option α := fun pc => cond (Nat.blt pc k) (l pc) (r pc)
def px_leaf {α : Type} (k : Nat) (a : α) : Nat → Option α := fun pc => cond (Nat.beq pc k) (some a) none
def px_loop (cb : px_C) (code : Nat → Option px_A) : Nat → Nat → px_L → List Value → px_H → Option (Option Value × px_H)
  | 0, _, _, _, _ => none
  | n + 1, pc, lv, st, h => match code pc with
    | none => none
    | some act => match act cb pc lv st h with
      | none => none
      | some (.inl (pc', lv', st', h')) => px_loop cb code n pc' lv' st' h'
      | some (.inr r) => some r
