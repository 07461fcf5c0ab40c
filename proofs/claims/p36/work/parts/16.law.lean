/-! THE LAW'S FRAME: as a method's, with the script beside it -/
def px_E (L : Nat) (xs : Nat → Int32) (s : State) (A : Nat → Prop) (ad : Nat → Nat) : Prop := va_X (ad 3004) L xs s s.heap ∧ ad 3004 < s.heap.size ∧ ¬ A (ad 3004)
def px_okE (L : Nat) (xs : Nat → Int32) (mm : Nat → Option px_M) (own : String) (cc : ByteArray) (nL : Nat) (ret : Option FieldType) (pc : Nat) (act : px_A) : Prop :=
  ∀ (p : Program) (l : Launch) (e : Env) (R : Room) (s : State) (m : MethodId) (args : Array Value) (below : List Frame) (meth : Method) (c : Code) (cells slots : Nat) (Q : State → Prop) (A : Nat → Prop) (ad : Nat → Nat) (D : va_G) (tc : Nat → ClassId) (cb : px_C),
    px_X own cc nL p R s m args c cells slots A ad D tc → px_E L xs s A ad → px_cbok mm l R D tc ad cb → ∀ (lv : px_L) (st : List Value) (h : px_H) (r : px_N), act cb pc lv st h = some r → px_tr p l e R s m args below meth c cells slots Q A ad D tc cc nL ret pc lv st h r
def px_siald (L : Nat) (xs : Nat → Int32) : px_A := fun _ pc lv st h => match st with
  | .int i :: .ref a :: r => cond (Nat.beq a 3004 && px_inb i L) (some (.inl (pc + 1, lv, .int (xs i.toNatClampNeg) :: r, h))) none
  | _ => none
def px_salen (L : Nat) : px_A := fun _ pc lv st h => match st with
  | .ref a :: r => cond (Nat.beq a 3004) (some (.inl (pc + 1, lv, .int (Int32.ofNat L) :: r, h))) none
  | _ => none
section LAWF
variable {L : Nat} {xs : Nat → Int32} {mm : Nat → Option px_M} {own : String} {cc : ByteArray} {nL : Nat} {ret : Option FieldType} {pc : Nat}
theorem okE_of {act : px_A} (h : px_ok mm own cc nL ret pc act) : px_okE L xs mm own cc nL ret pc act :=
  fun p l e R s m args below meth c cells slots Q A ad D tc cb X _ CB => h p l e R s m args below meth c cells slots Q A ad D tc cb X CB
theorem okE_siald (hdg : decode cc pc = .ok (.iaload, 1)) : px_okE L xs mm own cc nL ret pc (px_siald L xs) := by
  intro p l e R s m args below meth c cells slots Q A ad D tc cb X E _ lv st h r hr
  obtain ⟨hx, hb0, hml, hown, hts, hK, hf1, hf2, hf3, hf4, hKC, hA⟩ := X
  unfold px_siald at hr
  split at hr
  · next i a rest =>
    cases hb : (Nat.beq a 3004 && px_inb i L) with
    | false => rw [hb] at hr; cases hr
    | true =>
      rw [hb] at hr
      cases hr
      rw [Bool.and_eq_true] at hb
      have := Nat.eq_of_beq_eq_true hb.1
      subst this
      intro H locs ls hW hl kk
      exact va_sld hx hb0 E.1 E.2.1 E.2.2 hW.2.2 (px_inb_ok hb.2) hdg (kk _ _ _ hW hl)
  · cases hr
theorem okE_salen (hdg : decode cc pc = .ok (.arraylength, 1)) : px_okE L xs mm own cc nL ret pc (px_salen L) := by
  intro p l e R s m args below meth c cells slots Q A ad D tc cb X E _ lv st h r hr
  obtain ⟨hx, hb0, hml, hown, hts, hK, hf1, hf2, hf3, hf4, hKC, hA⟩ := X
  unfold px_salen at hr
  split at hr
  · next a rest =>
    cases hb : Nat.beq a 3004 with
    | false => rw [hb] at hr; cases hr
    | true =>
      rw [hb] at hr
      cases hr
      have := Nat.eq_of_beq_eq_true hb
      subst this
      intro H locs ls hW hl kk
      exact va_slen hx hb0 E.1 E.2.1 E.2.2 hW.2.2 hdg (kk _ _ _ hW hl)
  · cases hr
def px_okTE (L : Nat) (xs : Nat → Int32) (mm : Nat → Option px_M) (own : String) (cc : ByteArray) (nL : Nat) (ret : Option FieldType) (code : Nat → Option px_A) : Prop := ∀ (pc : Nat) (act : px_A), code pc = some act → px_okE L xs mm own cc nL ret pc act
theorem okTE_node {k : Nat} {a b : Nat → Option px_A} (ha : px_okTE L xs mm own cc nL ret a) (hb : px_okTE L xs mm own cc nL ret b) : px_okTE L xs mm own cc nL ret (px_node k a b) := by
  intro pc act h
  unfold px_node at h
  cases hc : Nat.blt pc k with
  | true => rw [hc] at h; exact ha pc act h
  | false => rw [hc] at h; exact hb pc act h
theorem okTE_leaf {k : Nat} {a : px_A} (ha : px_okE L xs mm own cc nL ret k a) : px_okTE L xs mm own cc nL ret (px_leaf k a) := by
  intro pc act h
  unfold px_leaf at h
  cases hc : Nat.beq pc k with
  | true =>
    rw [hc] at h
    cases h
    rw [Nat.eq_of_beq_eq_true hc]
    exact ha
  | false => rw [hc] at h; cases h
theorem px_loopWE {p : Program} {l : Launch} {e : Env} {R : Room} {s : State} {m : MethodId} {args : Array Value} {below : List Frame} {meth : Method} {c : Code} {cells slots : Nat} {Q : State → Prop} {A : Nat → Prop} {ad : Nat → Nat} {D : va_G} {tc : Nat → ClassId} {cb : px_C} {code : Nat → Option px_A} (hT : px_okTE L xs mm own cc nL ret code)
    (X : px_X own cc nL p R s m args c cells slots A ad D tc) (E : px_E L xs s A ad) (CB : px_cbok mm l R D tc ad cb) {v : Option Value} {h' : px_H} : ∀ (n pc : Nat) (lv : px_L) (st : List Value) (h : px_H), px_loop cb code n pc lv st h = some (v, h') → ∀ (H : Heap) (locs : List Loc) (ls : Array Slot), px_Wd D tc ad A s.heap h H locs → lv_has ls nL (px_ml ad lv) →
      (∀ (pcr : Nat) (H' : Heap) (locs' : List Loc) (ls' : Array Slot) (st' : List Value), px_Wd D tc ad A s.heap h' H' locs' → px_end cc ret pcr v st' → W p l e R s m args below meth c H' locs' cells slots Q (F0 m pcr ls' (px_ms ad st'))) →
      W p l e R s m args below meth c H locs cells slots Q (F0 m pc ls (px_ms ad st))
  | 0, _, _, _, _, hr => by cases hr
  | n + 1, pc, lv, st, h, hr => by
    intro H locs ls hW hl kk
    unfold px_loop at hr
    split at hr
    · cases hr
    · next act hact =>
      split at hr
      · cases hr
      · next pc' lv' st' h1 hstep =>
        exact hT pc act hact p l e R s m args below meth c cells slots Q A ad D tc cb X E CB lv st h _ hstep H locs ls hW hl (fun H' locs' ls' hW' hl' => px_loopWE hT X E CB n pc' lv' st' h1 hr H' locs' ls' hW' hl' kk)
      · next r hstep =>
        cases hr
        obtain ⟨e1, e2⟩ := hT pc act hact p l e R s m args below meth c cells slots Q A ad D tc cb X E CB lv st h _ hstep
        subst e1
        exact kk pc H locs ls st hW e2
end LAWF
