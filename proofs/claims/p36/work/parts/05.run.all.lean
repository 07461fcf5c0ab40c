/-! part 05.run -/
section
section PXCALLS
variable {mm : Nat → Option px_M} {own : String} {cc : ByteArray} {nL : Nat} {ret : Option FieldType} {pc : Nat}
theorem px_mm_ok (pred : Int32 → Int32 → Int32) {st : List Value} {h : px_H} {cb : px_C} {lv : px_L} {r : px_N} (hr : px_mx pred cb pc lv st h = some r) : ∃ x y rest, st = .int y :: .int x :: rest ∧ px_cat rest ≤ 8 ∧ r = .inl (pc + 3, lv, .int (pred x y) :: rest, h) := by
  unfold px_mx at hr
  split at hr
  · next y x rest =>
    cases hb : Nat.ble (px_cat rest) 8 with
    | false => rw [hb] at hr; cases hr
    | true =>
      rw [hb] at hr
      cases hr
      exact ⟨_, _, _, rfl, Nat.le_of_ble_eq_true hb, rfl⟩
  · cases hr
theorem ok_max {i : Nat} (hw1 : Cond.methodLink own i Lib.Math.max.name ∈ px_words) (hw2 : Cond.static Lib.Math.max.name ∈ px_words) (hw3 : Cond.initialized "java/lang/Math" ∈ px_words) (hw4 : Cond.code Lib.Math.max.name Lib.Math.max.code 2 (some .int) ∈ px_words) (hdg : decode cc pc = .ok (.invokestatic i, 3)) : px_ok mm own cc nL ret pc (px_mx (fun x y => if x < y then y else x)) := by
  intro p l e R s m args below meth c cells slots Q A ad D tc cb X _ lv st h r hr
  obtain ⟨hx, hb0, hml, hown, hts, hK, hf1, hf2, hf3, hf4, hKC, hA⟩ := X
  obtain ⟨x, y, rest, rfl, h8, rfl⟩ := px_mm_ok _ hr
  exact fun H locs ls hW hl k => va_mmax hx hb0 (by rw [hml, hl.1]) hown (hts _ hw1) (hts _ hw2) (hts _ hw3) (hts _ hw4) hf1 (by rw [px_cat_ms]; omega) hf3 hf4 hdg (k _ _ _ hW hl)
theorem ok_min {i : Nat} (hw1 : Cond.methodLink own i Lib.Math.min.name ∈ px_words) (hw2 : Cond.static Lib.Math.min.name ∈ px_words) (hw3 : Cond.initialized "java/lang/Math" ∈ px_words) (hw4 : Cond.code Lib.Math.min.name Lib.Math.min.code 2 (some .int) ∈ px_words) (hdg : decode cc pc = .ok (.invokestatic i, 3)) : px_ok mm own cc nL ret pc (px_mx (fun x y => if y < x then y else x)) := by
  intro p l e R s m args below meth c cells slots Q A ad D tc cb X _ lv st h r hr
  obtain ⟨hx, hb0, hml, hown, hts, hK, hf1, hf2, hf3, hf4, hKC, hA⟩ := X
  obtain ⟨x, y, rest, rfl, h8, rfl⟩ := px_mm_ok _ hr
  exact fun H locs ls hW hl k => va_mmin hx hb0 (by rw [hml, hl.1]) hown (hts _ hw1) (hts _ hw2) (hts _ hw3) (hts _ hw4) hf1 (by rw [px_cat_ms]; omega) hf3 hf4 hdg (k _ _ _ hW hl)
theorem ok_arraycopy {i : Nat} (hw1 : Cond.methodLink own i arraycopyName ∈ px_words) (hw2 : Cond.native arraycopyName ∈ px_words) (hw3 : Cond.static arraycopyName ∈ px_words) (hw4 : Cond.initialized "java/lang/System" ∈ px_words) (hdg : decode cc pc = .ok (.invokestatic i, 3)) : px_ok mm own cc nL ret pc px_acopy := by
  intro p l e R s m args below meth c cells slots Q A ad D tc cb X _ lv st h r hr
  obtain ⟨hx, hb0, hml, hown, hts, hK, hf1, hf2, hf3, hf4, hKC, hA⟩ := X
  unfold px_acopy at hr
  split at hr
  · next n dp b sp a rest =>
    split at hr
    · next n0 f n1 g ha hb =>
      cases hc : (decide (0 ≤ sp) && decide (0 ≤ dp) && decide (0 ≤ n) && Nat.ble (sp.toNatClampNeg + n.toNatClampNeg) n0 && Nat.ble (dp.toNatClampNeg + n.toNatClampNeg) n1 && Nat.ble (px_cat rest) 8) with
      | false => rw [hc] at hr; cases hr
      | true =>
        rw [hc] at hr
        cases hr
        simp only [Bool.and_eq_true, decide_eq_true_eq] at hc
        obtain ⟨⟨⟨⟨⟨c1, c2⟩, c3⟩, c4⟩, c5⟩, c6⟩ := hc
        have c6 := Nat.le_of_ble_eq_true c6
        have ng : ∀ z : Int32, 0 ≤ z → ¬ z < 0 := fun z q => by rw [Int32.not_lt]; exact q
        intro H locs ls hW hl kk
        refine va_copyi (D := D) hx hb0 (by rw [hml, hl.1]) hown (hts _ hw1) (hts _ hw2) (hts _ hw3) (hts _ hw4) hK hW.1 hW.2.1 hW.2.2 _ _ 0 0 (px_ws_get tc ad (px_arr_r ha)) (px_ws_get tc ad (px_arr_r hb)) rfl rfl rfl (ng _ c1) (ng _ c2) (ng _ c3) (Nat.le_of_ble_eq_true c4) (Nat.le_of_ble_eq_true c5) (fun _ _ => rfl) hf1 ?_ hdg (fun H1 locs1 a1 a2 a3 => ?_)
        · have : nativeFrameWords "java/lang/System" "arraycopy" 5 ≤ 60 := by decide +kernel
          rw [px_cat_ms]; omega
        · have e1 : (ad b, (.inl (tc 0, n1, .inl (va_cpy f g sp.toNatClampNeg dp.toNatClampNeg n.toNatClampNeg)) : va_E)) = (ad b, px_me tc ad (.inl (0, n1, .inl (va_cpy f g sp.toNatClampNeg dp.toNatClampNeg n.toNatClampNeg)))) := rfl
          have b1 := a1
          have b2 := a2
          erw [e1, px_ws_set tc ad _ (px_arr_r hb)] at b1
          erw [e1, px_ws_set tc ad _ (px_arr_r hb)] at b2
          exact kk _ _ _ ⟨b1, b2, a3⟩ hl
    · cases hr
  · cases hr
theorem px_tl_eq (ad : Nat → Nat) (v : Option Value) (rest : List Value) : (v.map (px_mv ad)).toList ++ px_ms ad rest = px_ms ad (px_tl v rest) := by cases v <;> rfl
theorem px_isO_r {h : px_H} {b ci : Nat} (hb : px_isO h b ci = true) : ∃ fs, px_cell h b = some (.inr (ci, fs)) := by
  unfold px_isO at hb
  split at hb
  · next cj fs hc => rw [Nat.eq_of_beq_eq_true hb] at hc; exact ⟨fs, hc⟩
  · cases hb
/-- behind a call that makes nothing: the world as the callee leaves it -/
theorem px_after {p : Program} {l : Launch} {e : Env} {R : Room} {s : State} {m : MethodId} {args : Array Value} {below : List Frame} {meth : Method} {c : Code} {cells slots : Nat} {Q : State → Prop} {A : Nat → Prop} {ad : Nat → Nat} {D : va_G} {tc : Nat → ClassId} {h h' : px_H} {H : Heap} {locs : List Loc} {ls : Array Slot} {st0 rest : List Value} {av : Array Value} {v : Option Value}
    (hr : va_Run p l e R s m args below meth c H locs cells slots 0 0 (F0 m pc ls st0) (px_ms ad rest) (px_Q D tc ad v h' (va_A (px_ws tc ad h) H.size) av) (va_A (px_ws tc ad h) H.size)) (hW : px_Wd D tc ad A s.heap h H locs) (hA : ∀ q, s.heap.size ≤ q → A q)
    (kk : ∀ (H' : Heap) (locs' : List Loc), px_Wd D tc ad A s.heap h' H' locs' → W p l e R s m args below meth c H' locs' cells slots Q (F0 m (pc + 3) ls (px_ms ad (px_tl v rest)))) : W p l e R s m args below meth c H locs cells slots Q (F0 m pc ls st0) := by
  have hF : ∀ q, va_A (px_ws tc ad h) H.size q → A q := by
    intro q hq
    rcases hq with ⟨k, e, hq⟩ | hq
    · exact hW.2.1.2 k _ hq
    · exact hA q (Nat.le_trans hW.2.2.1 hq)
  intro T hT X
  obtain ⟨v1, st₀, t, T', L, h0, X', hL, e1, e2, ⟨hv, hP1, hD1, hz, hk⟩, st⟩ := hr T hT X
  rw [h0] at hz hk
  have hv := (Outcome.returned.inj hv)
  subst hv
  have hS1 : va_S A s.heap T'.heap (locs ++ L) := ⟨Nat.le_trans hW.2.2.1 (by rw [e1]; exact hz), fun q h1 h2 => by rw [e1, hk q (Nat.lt_of_lt_of_le h1 hW.2.2.1) (fun z => h2 (hF q z))]; exact hW.2.2.2.1 q h1 h2, fun q hq => by
      rcases List.mem_append.mp hq with h | h
      · exact hW.2.2.2.2 q h
      · exact hF _ (hL q h)⟩
  rw [← e1] at hP1
  obtain ⟨t2, a1, b1⟩ := kk T'.heap (locs ++ L) ⟨hP1, hD1.weaken (fun k q _ h => hF q.1 h), hS1⟩ T' rfl X'
  have st' := st t2
  dsimp only at st'
  rw [px_tl_eq] at st'
  exact ⟨t2, st' a1, b1⟩
theorem px_blind (D : va_G) (tc : Nat → ClassId) (ad : Nat → Nat) (as : List Value) (h : px_H) (sz : Nat) : FrameBlind (px_Pre D tc ad as h sz) := fun a U g mk q => by
  obtain ⟨q0, q1, qP, qK, qD, qC⟩ := q
  exact ⟨q0, q1, qP, va_K.moved (u := U) (U := U.calling g mk a) (Vm.Alike.refl U.vm) qK, qD, px_KC.same rfl qC⟩
theorem px_pre {p : Program} {R : Room} {s : State} {m : MethodId} {args : Array Value} {c : Code} {cells slots : Nat} {A : Nat → Prop} {ad : Nat → Nat} {D : va_G} {tc : Nat → ClassId} {h : px_H} {H : Heap} {locs : List Loc} (X : px_X own cc nL p R s m args c cells slots A ad D tc) (hW : px_Wd D tc ad A s.heap h H locs) (as : List Value) : ∀ U : State, U.heap = H → s.WarmedH U.vm → px_Pre D tc ad as h H.size (px_ms ad as).toArray U := by
  obtain ⟨hx, hb0, hml, hown, hts, hK, hf1, hf2, hf3, hf4, hKC, hA⟩ := X
  intro U hU hWm
  have hF : ∀ q, va_A (px_ws tc ad h) H.size q → A q := by
    intro q hq
    rcases hq with ⟨k, e, hq⟩ | hq
    · exact hW.2.1.2 k _ hq
    · exact hA q (Nat.le_trans hW.2.2.1 hq)
  refine ⟨rfl, by rw [hU], by rw [hU]; exact hW.1, va_K.moved hWm.alike hK, hW.2.1.weaken (fun _ _ _ _ => trivial), ?_⟩
  rw [hU]
  exact ((hKC.kept hW.2.2.2.1).narrow hF).warm hWm
theorem px_goodall : ∀ w ∈ px_words, (w.onTables && w.keeps) = true ∨ ∃ ty, w = .arrayClass ty := fun w hw => (px_words_good w hw).2
theorem px_goodM {M : px_M} (hc : Cond.code M.1 M.2.1 M.2.2.1 M.2.2.2 ∈ px_words) : GoodIn px_words (px_wj M) := by
  intro w hw
  have hm : w ∈ px_words := by
    rcases List.mem_cons.mp hw with q | q
    · rw [q]; exact hc
    · exact q
  exact ⟨hm, px_goodall w hm⟩
/-- what the tables say of a method, as a call wants it -/
def px_lk1 (M : px_M) (n : Nat) : Prop := Cond.code M.1 M.2.1 M.2.2.1 M.2.2.2 ∈ px_words ∧ (M.1.cls ≠ "java/lang/invoke/MethodHandle" ∧ M.1.cls ≠ "java/lang/invoke/VarHandle" ∧ (parseMethodDescriptor M.1.desc).map (fun d => d.parameters.length) = some n) ∧ M.2.2.1 ≤ 61
theorem ok_callV {M : px_M} {j n ci i N : Nat} {T : u_T} (hj : mm j = some M) (hM : px_lk1 M n) (hc : vwCl[ci]? = some (M.1.cls, T, N)) (hw1 : Cond.methodLink own i M.1 ∈ px_words) (hw2 : Cond.instanceMethod M.1 ∈ px_words) (hw3 : Cond.selects M.1.cls M.1 M.1 ∈ px_words) (hw4 : Cond.initialized M.1.cls ∈ px_words) (hdg : decode cc pc = .ok (.invokevirtual i, 3)) : px_ok mm own cc nL ret pc (px_callV j n ci) := by
  intro p l e R s m args below meth c cells slots Q A ad D tc cb X CB lv st h r hr
  have X0 := X
  obtain ⟨hx, hb0, hml, hown, hts, hK, hf1, hf2, hf3, hf4, hKC, hA⟩ := X
  obtain ⟨rm, r1, r2, r3, r4, hcb⟩ := CB
  unfold px_callV at hr
  split at hr
  · next b as rest hpop =>
    cases hcond : (px_isO h b ci && Nat.ble (px_cat rest) 8) with
    | false => rw [hcond] at hr; cases hr
    | true =>
      rw [hcond] at hr
      dsimp only [cond] at hr
      rw [Bool.and_eq_true] at hcond
      split at hr
      · next v h' hcall =>
        cases hr
        obtain ⟨fs, hcell⟩ := px_isO_r hcond.1
        have h8 := Nat.le_of_ble_eq_true hcond.2
        obtain ⟨t, t1, t2, t3⟩ := px_pop_eq _ _ _ _ _ hpop
        have ht : t = as.reverse ++ [.ref b] := by
          have := congrArg List.reverse t3
          simp at this
          exact this.symm
        have hlen : as.length = n := by
          have := congrArg List.length ht
          simp at this
          omega
        intro H locs ls hW hl kk
        have hmet := hcb j (.ref b :: as) h v h' hcall M hj H.size
        have hst : px_ms ad st = (px_ms ad as).reverse ++ .ref (ad b) :: px_ms ad rest := by
          rw [t2, ht]
          simp [px_ms, px_mv]
        rw [hst]
        refine px_after (rest := rest) (va_runV (As := px_ms ad as) (b := ad b) (rest := px_ms ad rest) (C := M.1.cls) (n := n) (Ts := px_words) (nL := nL) (own := own) (index := i) (bytes := M.2.1) (maxL := M.2.2.1) (ret := M.2.2.2) (cc := cc) ⟨hx, hb0, hml, hown, hts⟩ hmet ?_ ⟨px_blind _ _ _ _ _ _, ?_, ?_⟩ rfl ?_ hl.1 rfl ?_ hdg ⟨by omega, by omega⟩) hW hA (fun H' locs' hW' => kk _ _ _ hW' hl)
        · refine ⟨callB_of n hts (px_goodM hM.1) rfl r3 r4 (hts _ hw4) (hts _ hw1) hM.2.1 ⟨r1, ?_⟩, hts _ hw2, hts _ hw3⟩
          have := hM.2.2
          omega
        · exact va_recv hK hW.1 hc (px_ws_get tc ad hcell)
        · exact px_pre X0 hW (.ref b :: as)
        · simp [px_ms, hlen]
        · exact lv_room (by rw [px_cat_ms]; exact h8)
      · cases hr
  · cases hr
theorem ok_callK {M : px_M} {j n i : Nat} (hj : mm j = some M) (hM : px_lk1 M n) (hc : M.1.cls = "java/lang/String") (hw1 : Cond.methodLink own i M.1 ∈ px_words) (hw2 : Cond.instanceMethod M.1 ∈ px_words) (hw3 : Cond.selects M.1.cls M.1 M.1 ∈ px_words) (hw4 : Cond.initialized M.1.cls ∈ px_words) (hdg : decode cc pc = .ok (.invokevirtual i, 3)) : px_ok mm own cc nL ret pc (px_callK j n) := by
  intro p l e R s m args below meth c cells slots Q A ad D tc cb X CB lv st h r hr
  have X0 := X
  obtain ⟨hx, hb0, hml, hown, hts, hK, hf1, hf2, hf3, hf4, hKC, hA⟩ := X
  obtain ⟨rm, r1, r2, r3, r4, hcb⟩ := CB
  unfold px_callK at hr
  split at hr
  · next b as rest hpop =>
    cases hcond : (px_isK b && Nat.ble (px_cat rest) 8) with
    | false => rw [hcond] at hr; cases hr
    | true =>
      rw [hcond] at hr
      dsimp only [cond] at hr
      rw [Bool.and_eq_true] at hcond
      split at hr
      · next v h' hcall =>
        cases hr
        have h8 := Nat.le_of_ble_eq_true hcond.2
        obtain ⟨t, t1, t2, t3⟩ := px_pop_eq _ _ _ _ _ hpop
        have ht : t = as.reverse ++ [.ref b] := by
          have := congrArg List.reverse t3
          simp at this
          exact this.symm
        have hlen : as.length = n := by
          have := congrArg List.length ht
          simp at this
          omega
        intro H locs ls hW hl kk
        have hmet := hcb j (.ref b :: as) h v h' hcall M hj H.size
        have hst : px_ms ad st = (px_ms ad as).reverse ++ .ref (ad b) :: px_ms ad rest := by
          rw [t2, ht]
          simp [px_ms, px_mv]
        rw [hst]
        refine px_after (rest := rest) (va_runV (As := px_ms ad as) (b := ad b) (rest := px_ms ad rest) (C := M.1.cls) (n := n) (Ts := px_words) (nL := nL) (own := own) (index := i) (bytes := M.2.1) (maxL := M.2.2.1) (ret := M.2.2.2) (cc := cc) ⟨hx, hb0, hml, hown, hts⟩ hmet ?_ ⟨px_blind _ _ _ _ _ _, ?_, ?_⟩ rfl ?_ hl.1 rfl ?_ hdg ⟨by omega, by omega⟩) hW hA (fun H' locs' hW' => kk _ _ _ hW' hl)
        · refine ⟨callB_of n hts (px_goodM hM.1) rfl r3 r4 (hts _ hw4) (hts _ hw1) hM.2.1 ⟨r1, ?_⟩, hts _ hw2, hts _ hw3⟩
          have := hM.2.2
          omega
        · rw [hc]
          rcases px_isK_r hcond.1 with e | e
          · subst e
            exact vk_recv hKC.2.2.2.2.2.2 (i := 0) (by decide) hW.2.2
          · subst e
            exact vk_recv hKC.2.2.2.2.2.2 (i := 1) (by decide) hW.2.2
        · exact px_pre X0 hW (.ref b :: as)
        · simp [px_ms, hlen]
        · exact lv_room (by rw [px_cat_ms]; exact h8)
      · cases hr
  · cases hr
theorem px_popS {n : Nat} {st as rest : List Value} (h : px_pop n st [] = some (as, rest)) : as.length = n ∧ st = as.reverse ++ rest := by
  obtain ⟨t, t1, t2, t3⟩ := px_pop_eq _ _ _ _ _ h
  rw [List.append_nil] at t3
  subst t3
  exact ⟨by rw [List.length_reverse]; exact t1, by rw [List.reverse_reverse]; exact t2⟩
theorem ok_callS {M : px_M} {j n i : Nat} (hj : mm j = some M) (hM : px_lk1 M n) (hw1 : Cond.methodLink own i M.1 ∈ px_words) (hw2 : Cond.static M.1 ∈ px_words) (hw4 : Cond.initialized M.1.cls ∈ px_words) (hdg : decode cc pc = .ok (.invokestatic i, 3)) : px_ok mm own cc nL ret pc (px_callS j n) := by
  intro p l e R s m args below meth c cells slots Q A ad D tc cb X CB lv st h r hr
  have X0 := X
  obtain ⟨hx, hb0, hml, hown, hts, hK, hf1, hf2, hf3, hf4, hKC, hA⟩ := X
  obtain ⟨rm, r1, r2, r3, r4, hcb⟩ := CB
  unfold px_callS at hr
  split at hr
  · next as rest hpop =>
    cases hcond : Nat.ble (px_cat rest) 8 with
    | false => rw [hcond] at hr; cases hr
    | true =>
      rw [hcond] at hr
      dsimp only [cond] at hr
      split at hr
      · next v h' hcall =>
        cases hr
        have h8 := Nat.le_of_ble_eq_true hcond
        obtain ⟨hlen, hst0⟩ := px_popS hpop
        intro H locs ls hW hl kk
        have hmet := hcb j as h v h' hcall M hj H.size
        have hst : px_ms ad st = (px_ms ad as).reverse ++ px_ms ad rest := by
          rw [hst0]
          simp [px_ms]
        rw [hst]
        refine px_after (rest := rest) (va_runS (As := px_ms ad as) (rest := px_ms ad rest) (n := n) (Ts := px_words) (nL := nL) (own := own) (index := i) (bytes := M.2.1) (maxL := M.2.2.1) (ret := M.2.2.2) (cc := cc) ⟨hx, hb0, hml, hown, hts⟩ hmet ?_ ⟨px_blind _ _ _ _ _ _, ?_⟩ rfl ?_ hl.1 rfl ?_ hdg ⟨by omega, by omega⟩) hW hA (fun H' locs' hW' => kk _ _ _ hW' hl)
        · refine ⟨callB_of n hts (px_goodM hM.1) rfl r3 r4 (hts _ hw4) (hts _ hw1) hM.2.1 ⟨r1, ?_⟩, hts _ hw2⟩
          have := hM.2.2
          omega
        · exact px_pre X0 hW as
        · simp [px_ms, hlen]
        · exact lv_room (by rw [px_cat_ms]; exact h8)
      · cases hr
  · cases hr
theorem ok_callSN {M : px_M} {j n i : Nat} {host : String} (hj : mm j = some M) (hM : px_lk1 M n) (hw1 : (own, i, M.1, host) ∈ px_nest) (hw2 : Cond.static M.1 ∈ px_words) (hw4 : Cond.initialized M.1.cls ∈ px_words) (hdg : decode cc pc = .ok (.invokestatic i, 3)) : px_ok mm own cc nL ret pc (px_callS j n) := by
  intro p l e R s m args below meth c cells slots Q A ad D tc cb X CB lv st h r hr
  have X0 := X
  obtain ⟨hx, hb0, hml, hown, hts, hK, hf1, hf2, hf3, hf4, hKC, hA⟩ := X
  obtain ⟨rm, r1, r2, r3, r4, hcb⟩ := CB
  unfold px_callS at hr
  split at hr
  · next as rest hpop =>
    cases hcond : Nat.ble (px_cat rest) 8 with
    | false => rw [hcond] at hr; cases hr
    | true =>
      rw [hcond] at hr
      dsimp only [cond] at hr
      split at hr
      · next v h' hcall =>
        cases hr
        have h8 := Nat.le_of_ble_eq_true hcond
        obtain ⟨hlen, hst0⟩ := px_popS hpop
        intro H locs ls hW hl kk
        have hmet := hcb j as h v h' hcall M hj H.size
        have hst : px_ms ad st = (px_ms ad as).reverse ++ px_ms ad rest := by
          rw [hst0]
          simp [px_ms]
        rw [hst]
        refine px_after (rest := rest) (va_runSN (As := px_ms ad as) (rest := px_ms ad rest) (n := n) (Ts := px_words) (nL := nL) (own := own) (host := host) (index := i) (bytes := M.2.1) (maxL := M.2.2.1) (ret := M.2.2.2) (cc := cc) ⟨hx, hb0, hml, hown, hts⟩ hmet ⟨va_cnB n hts (px_goodM hM.1) rfl r3 r4 (hKC.2.2.2.1 _ hw1) (hts _ hw4) hM.2.1 ⟨r1, ?_⟩, hts _ hw2, trivial⟩ ⟨px_blind _ _ _ _ _ _, ?_⟩ rfl ?_ hl.1 rfl ?_ hdg ⟨by omega, by omega⟩) hW hA (fun H' locs' hW' => kk _ _ _ hW' hl)
        · have := hM.2.2
          omega
        · exact px_pre X0 hW as
        · simp [px_ms, hlen]
        · exact lv_room (by rw [px_cat_ms]; exact h8)
      · cases hr
  · cases hr
theorem ok_least {i : Nat} (hw : Cond.fieldLink own i RX7 "LEAST" "[I" ∈ px_words) (hdg : decode cc pc = .ok (.getstatic i, 3)) : px_ok mm own cc nL ret pc (px_pushr 3000 3) := by
  intro p l e R s m args below meth c cells slots Q A ad D tc cb X _ lv st h r hr
  obtain ⟨hx, hb0, hml, hown, hts, hK, hf1, hf2, hf3, hf4, hKC, hA⟩ := X
  cases hr
  exact fun H locs ls hW hl k => va_gets hx hb0 hKC.1.1 hW.2.2 hown (hts _ hw) (fun _ q => q) hdg (k _ _ _ hW hl)
theorem ok_most {i : Nat} (hw : Cond.fieldLink own i RX7 "MOST" "[I" ∈ px_words) (hdg : decode cc pc = .ok (.getstatic i, 3)) : px_ok mm own cc nL ret pc (px_pushr 3001 3) := by
  intro p l e R s m args below meth c cells slots Q A ad D tc cb X _ lv st h r hr
  obtain ⟨hx, hb0, hml, hown, hts, hK, hf1, hf2, hf3, hf4, hKC, hA⟩ := X
  cases hr
  exact fun H locs ls hW hl k => va_gets hx hb0 hKC.2.1.1 hW.2.2 hown (hts _ hw) (fun _ q => q) hdg (k _ _ _ hW hl)
theorem ok_ctw (ho : own = RX7) (hdg : decode cc pc = .ok (.ldc 132, 2)) : px_ok mm own cc nL ret pc (px_pushr 3002 2) := by
  intro p l e R s m args below meth c cells slots Q A ad D tc cb X _ lv st h r hr
  obtain ⟨hx, hb0, hml, hown, hts, hK, hf1, hf2, hf3, hf4, hKC, hA⟩ := X
  cases hr
  exact fun H locs ls hW hl k => va_ldcS hx hb0 hown (ho ▸ hKC.2.2.1.1) hdg (k _ _ _ hW hl)
theorem ok_hnk (ho : own = RX7) (hdg : decode cc pc = .ok (.ldc 134, 2)) : px_ok mm own cc nL ret pc (px_pushr 3003 2) := by
  intro p l e R s m args below meth c cells slots Q A ad D tc cb X _ lv st h r hr
  obtain ⟨hx, hb0, hml, hown, hts, hK, hf1, hf2, hf3, hf4, hKC, hA⟩ := X
  cases hr
  exact fun H locs ls hW hl k => va_ldcS hx hb0 hown (ho ▸ hKC.2.2.1.2) hdg (k _ _ _ hW hl)
theorem ok_compact {i : Nat} (hw : Cond.fieldLink own i "java/lang/String" "COMPACT_STRINGS" "Z" ∈ px_words) (hdg : decode cc pc = .ok (.getstatic i, 3)) : px_ok mm own cc nL ret pc (px_pushi 1 3) := by
  intro p l e R s m args below meth c cells slots Q A ad D tc cb X _ lv st h r hr
  obtain ⟨hx, hb0, hml, hown, hts, hK, hf1, hf2, hf3, hf4, hKC, hA⟩ := X
  cases hr
  exact fun H locs ls hW hl k => va_gets hx hb0 hKC.2.2.2.2.2.1 hW.2.2 hown (hts _ hw) (fun _ q => q) hdg (k _ _ _ hW hl)
theorem ok_breturn (hret : ret = some .byte) (hdg : decode cc pc = .ok (.ireturn, 1)) : px_ok mm own cc nL ret pc px_bret := by
  intro p l e R s m args below meth c cells slots Q A ad D tc cb X _ lv st h r hr
  unfold px_bret at hr
  split at hr
  · next x =>
    cases hb : (x == 0) with
    | false => rw [hb] at hr; cases hr
    | true =>
      rw [hb] at hr
      cases hr
      have e : x = 0 := eq_of_beq hb
      subst e
      exact ⟨rfl, Or.inl ⟨_, _, rfl, rfl, hret, by decide +kernel, hdg⟩⟩
  · cases hr
theorem ok_ireturn (hret : ret = some .int) (hdg : decode cc pc = .ok (.ireturn, 1)) : px_ok mm own cc nL ret pc px_iret := by
  intro p l e R s m args below meth c cells slots Q A ad D tc cb X _ lv st h r hr
  unfold px_iret at hr
  split at hr
  · cases hr
    exact ⟨rfl, Or.inl ⟨_, _, rfl, rfl, hret, rfl, hdg⟩⟩
  · cases hr
theorem ok_zreturn (hret : ret = some .boolean) (hdg : decode cc pc = .ok (.ireturn, 1)) : px_ok mm own cc nL ret pc px_zret := by
  intro p l e R s m args below meth c cells slots Q A ad D tc cb X _ lv st h r hr
  unfold px_zret at hr
  split at hr
  · next x =>
    cases hb : (x == 0 || x == 1) with
    | false => rw [hb] at hr; cases hr
    | true =>
      rw [hb] at hr
      cases hr
      exact ⟨rfl, Or.inl ⟨_, _, rfl, rfl, hret, (px_bool hb).1, hdg⟩⟩
  · cases hr
theorem ok_areturn {n : String} (hret : ret = some (.object n)) (hdg : decode cc pc = .ok (.areturn, 1)) : px_ok mm own cc nL ret pc px_aret := by
  intro p l e R s m args below meth c cells slots Q A ad D tc cb X _ lv st h r hr
  unfold px_aret at hr
  split at hr
  · cases hr
    exact ⟨rfl, Or.inr (Or.inl ⟨_, _, rfl, rfl, Or.inr ⟨_, rfl⟩, hret, hdg⟩)⟩
  · cases hr
    exact ⟨rfl, Or.inr (Or.inl ⟨_, _, rfl, rfl, Or.inl rfl, hret, hdg⟩)⟩
  · cases hr
theorem ok_return (hret : ret = none) (hdg : decode cc pc = .ok (.return_, 1)) : px_ok mm own cc nL ret pc px_vret := by
  intro p l e R s m args below meth c cells slots Q A ad D tc cb X _ lv st h r hr
  unfold px_vret at hr
  split at hr
  · cases hr
    exact ⟨rfl, Or.inr (Or.inr ⟨rfl, rfl, hret, hdg⟩)⟩
  · cases hr
/-- a method's whole code -/
def px_okT (mm : Nat → Option px_M) (own : String) (cc : ByteArray) (nL : Nat) (ret : Option FieldType) (code : Nat → Option px_A) : Prop := ∀ (pc : Nat) (act : px_A), code pc = some act → px_ok mm own cc nL ret pc act
theorem okT_node {k : Nat} {a b : Nat → Option px_A} (ha : px_okT mm own cc nL ret a) (hb : px_okT mm own cc nL ret b) : px_okT mm own cc nL ret (px_node k a b) := by
  intro pc act h
  unfold px_node at h
  cases hc : Nat.blt pc k with
  | true => rw [hc] at h; exact ha pc act h
  | false => rw [hc] at h; exact hb pc act h
theorem okT_leaf {k : Nat} {a : px_A} (ha : px_ok mm own cc nL ret k a) : px_okT mm own cc nL ret (px_leaf k a) := by
  intro pc act h
  unfold px_leaf at h
  cases hc : Nat.beq pc k with
  | true =>
    rw [hc] at h
    cases h
    rw [Nat.eq_of_beq_eq_true hc]
    exact ha
  | false => rw [hc] at h; cases h
theorem px_loopW {p : Program} {l : Launch} {e : Env} {R : Room} {s : State} {m : MethodId} {args : Array Value} {below : List Frame} {meth : Method} {c : Code} {cells slots : Nat} {Q : State → Prop} {A : Nat → Prop} {ad : Nat → Nat} {D : va_G} {tc : Nat → ClassId} {cb : px_C} {code : Nat → Option px_A} (hT : px_okT mm own cc nL ret code)
    (X : px_X own cc nL p R s m args c cells slots A ad D tc) (CB : px_cbok mm l R D tc ad cb) {v : Option Value} {h' : px_H} : ∀ (n pc : Nat) (lv : px_L) (st : List Value) (h : px_H), px_loop cb code n pc lv st h = some (v, h') → ∀ (H : Heap) (locs : List Loc) (ls : Array Slot), px_Wd D tc ad A s.heap h H locs → lv_has ls nL (px_ml ad lv) →
      (∀ (pcr : Nat) (H' : Heap) (locs' : List Loc) (ls' : Array Slot) (st' : List Value), px_Wd D tc ad A s.heap h' H' locs' → px_end cc ret pcr v st' → W p l e R s m args below meth c H' locs' cells slots Q (F0 m pcr ls' (px_ms ad st'))) →
      W p l e R s m args below meth c H locs cells slots Q (F0 m pc ls (px_ms ad st))
  | 0, _, _, _, _, hr => by cases hr
  | n + 1, pc, lv, st, h, hr => by
    intro H locs ls hW hl kk
    unfold px_loop at hr
    split at hr
    · cases hr
    · next act hact =>
      split at hr
      · cases hr
      · next pc' lv' st' h1 hstep =>
        exact hT pc act hact p l e R s m args below meth c cells slots Q A ad D tc cb X CB lv st h _ hstep H locs ls hW hl (fun H' locs' ls' hW' hl' => px_loopW hT X CB n pc' lv' st' h1 hr H' locs' ls' hW' hl' kk)
      · next r hstep =>
        cases hr
        obtain ⟨e1, e2⟩ := hT pc act hact p l e R s m args below meth c cells slots Q A ad D tc cb X CB lv st h _ hstep
        subst e1
        exact kk pc H locs ls st hW e2
end PXCALLS
/-- a run of a method: d calls may stand one in another, n steps in each -/
def px_run (codes : Nat → Option (Nat × (Nat → Option px_A))) : Nat → Nat → px_C
  | 0, _, _, _, _ => none
  | d + 1, n, j, as, h => match codes j with
    | none => none
    | some q => cond (Nat.ble (px_cat as) q.1) (px_loop (px_run codes d n) q.2 n 0 (px_args q.1 as) [] h) none
def px_rm (d : Nat) : Room := { frames := d, cells := 0, slots := 0, locals := 80 * d }
/-- the table of codes against the table of methods -/
def px_okC (mm : Nat → Option px_M) (codes : Nat → Option (Nat × (Nat → Option px_A))) : Prop := ∀ (j nL : Nat) (code : Nat → Option px_A), codes j = some (nL, code) → ∀ M : px_M, mm j = some M → plainName M.1.cls = true ∧ M.2.2.1 = nL ∧ px_okT mm M.1.cls M.2.1 nL M.2.2.2 code
theorem px_sound {mm : Nat → Option px_M} {codes : Nat → Option (Nat × (Nat → Option px_A))} (hC : px_okC mm codes) (l : Launch) (D : va_G) (tc : Nat → ClassId) (ad : Nat → Nat) : ∀ (d n j : Nat) (as : List Value) (h : px_H) (v : Option Value) (h' : px_H), px_run codes d n j as h = some (v, h') → ∀ M, mm j = some M → px_Met l D tc ad (px_rm d) M as h v h'
  | 0, _, _, _, _, _, _, hr => by cases hr
  | d + 1, n, j, as, h, v, h', hr => by
    have ih := px_sound hC l D tc ad d n
    intro M hM sz
    unfold px_run at hr
    split at hr
    · cases hr
    · next q hq =>
      obtain ⟨nL, code⟩ := q
      cases hb : Nat.ble (px_cat as) nL with
      | false => rw [hb] at hr; cases hr
      | true =>
        rw [hb] at hr
        dsimp only [cond] at hr
        have hle := Nat.le_of_ble_eq_true hb
        obtain ⟨hy, hnL, hT⟩ := hC j nL code hq M hM
        subst hnL
        refine Met.ofW (cc := M.2.1) (maxL := M.2.2.1) (ret := M.2.2.2) hy rfl ?_
        intro p e s m args below meth c s₁ B hml hv
        obtain ⟨rfl, hsz, hP, hK, hD0, hKC⟩ := hv
        subst hsz
        have hts : ∀ w ∈ px_wj M, w.before (px_ms ad as).toArray s = true := atoms_spec (ws := px_wj M) B.pre
        have hown : s.vm.findClass M.1.cls = some m.cls := findClass_of_methodNamed B.named
        have hlocks := B.notSynchronized
        have hD := hD0.self (sz := s.heap.size)
        have hl := lv_entry (px_ms ad as) (n := M.2.2.1) (by rw [px_sl_len]; exact hle)
        rw [lg_entry_eq]
        generalize (lg_sl (px_ms ad as) ++ List.replicate (M.2.2.1 - (lg_sl (px_ms ad as)).length) Slot.unset).toArray = ls at hl ⊢
        have hl := px_has_args (ad := ad) (m := M.2.2.1) hl
        have X : px_X M.1.cls M.2.1 M.2.2.1 p (headSpec (px_wj M) (px_rm (d + 1))).room s m (px_ms ad as).toArray c 0 0 (va_A (px_ws tc ad h) s.heap.size) ad D tc :=
          ⟨B.exec, B.bytes, hml, hown, fun w hw => hts w (List.mem_cons_of_mem _ hw), hK, Nat.succ_le_succ (Nat.zero_le d), by show 80 ≤ 80 * (d + 1); omega, Nat.zero_le _, Nat.zero_le _, hKC, fun q hq => Or.inr hq⟩
        have CB : px_cbok mm l (headSpec (px_wj M) (px_rm (d + 1))).room D tc ad (px_run codes d n) :=
          ⟨px_rm d, Nat.le_refl _, by show 80 + 80 * d ≤ 80 * (d + 1); omega, rfl, rfl, ih⟩
        refine px_loopW hT X CB n 0 _ [] h hr s.heap [] ls ⟨hP, hD, va_S.rf⟩ hl (fun pcr H' locs' ls' st' hW' hend => ?_)
        rcases hend with ⟨x, ty, rfl, rfl, e3, e4, e5⟩ | ⟨x, n', rfl, rfl, e3, e4, e5⟩ | ⟨rfl, rfl, e3, e5⟩
        · exact W.zret B.exec B.bytes (by rw [← e3]; exact B.returns) e4 (fun t ht hWm => ⟨rfl, by rw [ht]; exact hW'.1, hW'.2.1, hW'.2.2.F ht⟩) hW'.2.2.2.2 e5
        · refine W.aret (v := px_mv ad x) B.exec B.bytes (by rw [← e4]; exact B.returns) (Or.inl ⟨_, rfl⟩) ?_ (fun t ht hWm => ⟨rfl, by rw [ht]; exact hW'.1, hW'.2.1, hW'.2.2.F ht⟩) hW'.2.2.2.2 e5
          rcases e3 with rfl | ⟨k, rfl⟩
          · exact Or.inl rfl
          · exact Or.inr ⟨_, rfl⟩
        · exact W.vret B.exec B.bytes (by rw [← e3]; exact B.returns) (fun t ht hWm => ⟨rfl, by rw [ht]; exact hW'.1, hW'.2.1, hW'.2.2.F ht⟩) hW'.2.2.2.2 e5
end
/-! part 06.frame -/
section
/-! A RUN THAT HOLDS OVER HALF A HEAP holds whatever the other half is -/
def px_inv (b : Option Bool) (h : px_H) : Prop := match b with
  | none => True
  | some true => h.2 = []
  | some false => h.1 = []
def px_lf (b : Option Bool) (X : List va_E) (h : px_H) : px_H := match b with
  | none => h
  | some true => (h.1, X)
  | some false => (X, h.2)
def px_lfN (b : Option Bool) (X : List va_E) : px_N → px_N
  | .inl (pc, lv, st, h) => .inl (pc, lv, st, px_lf b X h)
  | .inr (v, h) => .inr (v, px_lf b X h)
def px_invN (b : Option Bool) : px_N → Prop
  | .inl (_, _, _, h) => px_inv b h
  | .inr (_, h) => px_inv b h
def px_frC (b : Option Bool) (X : List va_E) (cb cb' : px_C) : Prop := ∀ (j : Nat) (as : List Value) (h : px_H) (v : Option Value) (h' : px_H), px_inv b h → cb j as h = some (v, h') → cb' j as (px_lf b X h) = some (v, px_lf b X h') ∧ px_inv b h'
/-- a step over half a heap (or the whole one), by calls that know less, is the step over the whole heap by calls that know more -/
def px_fr (act : px_A) : Prop := ∀ (b : Option Bool) (X : List va_E) (cb cb' : px_C), px_frC b X cb cb' → ∀ (pc : Nat) (lv : px_L) (st : List Value) (h : px_H) (r : px_N), px_inv b h → act cb pc lv st h = some r → act cb' pc lv st (px_lf b X h) = some (px_lfN b X r) ∧ px_invN b r
theorem px_lf_cell {b : Option Bool} {X : List va_E} {h : px_H} {k : Nat} {e : va_E} (hi : px_inv b h) (hc : px_cell h k = some e) : px_cell (px_lf b X h) k = some e := by
  obtain ⟨h1, h2⟩ := h
  match b with
  | none => exact hc
  | some true =>
    unfold px_cell at hc ⊢
    have hi : h2 = [] := hi
    subst hi
    cases hb : Nat.blt k 1000 with
    | true => rw [hb] at hc; exact hc
    | false => rw [hb] at hc; cases hc
  | some false =>
    unfold px_cell at hc ⊢
    have hi : h1 = [] := hi
    subst hi
    cases hb : Nat.blt k 1000 with
    | true => rw [hb] at hc; cases hc
    | false => rw [hb] at hc; exact hc
theorem px_lf_put {b : Option Bool} {X : List va_E} {h : px_H} {k : Nat} {e0 : va_E} (e : va_E) (hi : px_inv b h) (hc : px_cell h k = some e0) : px_put (px_lf b X h) k e = px_lf b X (px_put h k e) ∧ px_inv b (px_put h k e) := by
  obtain ⟨h1, h2⟩ := h
  match b with
  | none => exact ⟨rfl, trivial⟩
  | some true =>
    unfold px_cell at hc
    unfold px_put
    have hi : h2 = [] := hi
    subst hi
    cases hb : Nat.blt k 1000 with
    | true => exact ⟨rfl, rfl⟩
    | false => rw [hb] at hc; cases hc
  | some false =>
    unfold px_cell at hc
    unfold px_put
    have hi : h1 = [] := hi
    subst hi
    cases hb : Nat.blt k 1000 with
    | true => rw [hb] at hc; cases hc
    | false => exact ⟨rfl, rfl⟩
theorem px_lf_arr {b : Option Bool} {X : List va_E} {h : px_H} {k n : Nat} {f : Nat → Int32} (hi : px_inv b h) (hc : px_arr h k = some (n, f)) : px_arr (px_lf b X h) k = some (n, f) := by
  have h1 := px_lf_cell (X := X) hi (px_arr_r hc)
  unfold px_arr
  rw [h1]
  rfl
theorem fr_pushi {v : Int32} {n : Nat} : px_fr (px_pushi v n) := by
  intro b X cb cb' _ pc lv st h r hi hr
  cases hr
  exact ⟨rfl, hi⟩
theorem fr_pushl {v : Int64} {n : Nat} : px_fr (px_pushl v n) := by
  intro b X cb cb' _ pc lv st h r hi hr
  cases hr
  exact ⟨rfl, hi⟩
theorem fr_pushr {k n : Nat} : px_fr (px_pushr k n) := by
  intro b X cb cb' _ pc lv st h r hi hr
  cases hr
  exact ⟨rfl, hi⟩
theorem fr_pushn : px_fr px_pushn := by
  intro b X cb cb' _ pc lv st h r hi hr
  cases hr
  exact ⟨rfl, hi⟩
theorem fr_goto {t : Nat} : px_fr (px_goto t) := by
  intro b X cb cb' _ pc lv st h r hi hr
  cases hr
  exact ⟨rfl, hi⟩
theorem fr_ild {i n : Nat} : px_fr (px_ild i n) := by
  intro b X cb cb' _ pc lv st h r hi hr
  unfold px_ild at hr ⊢
  split at hr
  · cases hr; exact ⟨rfl, hi⟩
  · cases hr
theorem fr_lld {i n : Nat} : px_fr (px_lld i n) := by
  intro b X cb cb' _ pc lv st h r hi hr
  unfold px_lld at hr ⊢
  split at hr
  · cases hr; exact ⟨rfl, hi⟩
  · cases hr
theorem fr_ald {i n : Nat} : px_fr (px_ald i n) := by
  intro b X cb cb' _ pc lv st h r hi hr
  unfold px_ald at hr ⊢
  split at hr
  · cases hr; exact ⟨rfl, hi⟩
  · cases hr; exact ⟨rfl, hi⟩
  · cases hr
theorem fr_iinc {i : Nat} {c : Int32} : px_fr (px_iinc i c) := by
  intro b X cb cb' _ pc lv st h r hi hr
  unfold px_iinc at hr ⊢
  split at hr
  · cases hr; exact ⟨rfl, hi⟩
  · cases hr
theorem fr_ist {i n : Nat} : px_fr (px_ist i n) := by
  intro b X cb cb' _ pc lv st h r hi hr
  unfold px_ist at hr ⊢
  split at hr
  · cases hr; exact ⟨rfl, hi⟩
  · cases hr
theorem fr_ast {i n : Nat} : px_fr (px_ast i n) := by
  intro b X cb cb' _ pc lv st h r hi hr
  unfold px_ast at hr ⊢
  split at hr
  · cases hr; exact ⟨rfl, hi⟩
  · cases hr; exact ⟨rfl, hi⟩
  · cases hr
theorem fr_dup  : px_fr (px_dup ) := by
  intro b X cb cb' _ pc lv st h r hi hr
  unfold px_dup at hr ⊢
  split at hr
  · cases hr; exact ⟨rfl, hi⟩
  · cases hr; exact ⟨rfl, hi⟩
  · cases hr
theorem fr_dup2  : px_fr (px_dup2 ) := by
  intro b X cb cb' _ pc lv st h r hi hr
  unfold px_dup2 at hr ⊢
  split at hr
  · cases hr; exact ⟨rfl, hi⟩
  · cases hr
theorem fr_popi  : px_fr (px_popi ) := by
  intro b X cb cb' _ pc lv st h r hi hr
  unfold px_popi at hr ⊢
  split at hr
  · cases hr; exact ⟨rfl, hi⟩
  · cases hr
theorem fr_bin {f : Int32 → Int32 → Int32} : px_fr (px_bin f) := by
  intro b X cb cb' _ pc lv st h r hi hr
  unfold px_bin at hr ⊢
  split at hr
  · cases hr; exact ⟨rfl, hi⟩
  · cases hr
theorem fr_un {f : Int32 → Int32} : px_fr (px_un f) := by
  intro b X cb cb' _ pc lv st h r hi hr
  unfold px_un at hr ⊢
  split at hr
  · cases hr; exact ⟨rfl, hi⟩
  · cases hr
theorem fr_i2l  : px_fr (px_i2l ) := by
  intro b X cb cb' _ pc lv st h r hi hr
  unfold px_i2l at hr ⊢
  split at hr
  · cases hr; exact ⟨rfl, hi⟩
  · cases hr
theorem fr_l2i  : px_fr (px_l2i ) := by
  intro b X cb cb' _ pc lv st h r hi hr
  unfold px_l2i at hr ⊢
  split at hr
  · cases hr; exact ⟨rfl, hi⟩
  · cases hr
theorem fr_lbin {f : Int64 → Int64 → Int64} : px_fr (px_lbin f) := by
  intro b X cb cb' _ pc lv st h r hi hr
  unfold px_lbin at hr ⊢
  split at hr
  · cases hr; exact ⟨rfl, hi⟩
  · cases hr
theorem fr_lsh {f : Int64 → Int32 → Int64} : px_fr (px_lsh f) := by
  intro b X cb cb' _ pc lv st h r hi hr
  unfold px_lsh at hr ⊢
  split at hr
  · cases hr; exact ⟨rfl, hi⟩
  · cases hr
theorem fr_if {f : Int32 → Bool} {t : Nat} : px_fr (px_if f t) := by
  intro b X cb cb' _ pc lv st h r hi hr
  unfold px_if at hr ⊢
  split at hr
  · cases hr; exact ⟨rfl, hi⟩
  · cases hr
theorem fr_icmp {f : Int32 → Int32 → Bool} {t : Nat} : px_fr (px_icmp f t) := by
  intro b X cb cb' _ pc lv st h r hi hr
  unfold px_icmp at hr ⊢
  split at hr
  · cases hr; exact ⟨rfl, hi⟩
  · cases hr
theorem fr_ifnull {t : Nat} : px_fr (px_ifnull t) := by
  intro b X cb cb' _ pc lv st h r hi hr
  unfold px_ifnull at hr ⊢
  split at hr
  · cases hr; exact ⟨rfl, hi⟩
  · cases hr; exact ⟨rfl, hi⟩
  · cases hr
theorem fr_ifnn {t : Nat} : px_fr (px_ifnn t) := by
  intro b X cb cb' _ pc lv st h r hi hr
  unfold px_ifnn at hr ⊢
  split at hr
  · cases hr; exact ⟨rfl, hi⟩
  · cases hr; exact ⟨rfl, hi⟩
  · cases hr
theorem fr_tsw {lo : Int} {ts : List Nat} {d : Nat} : px_fr (px_tsw lo ts d) := by
  intro b X cb cb' _ pc lv st h r hi hr
  unfold px_tsw at hr ⊢
  split at hr
  · cases hr; exact ⟨rfl, hi⟩
  · cases hr
theorem fr_lsw {ps : List (Int × Nat)} {d : Nat} : px_fr (px_lsw ps d) := by
  intro b X cb cb' _ pc lv st h r hi hr
  unfold px_lsw at hr ⊢
  split at hr
  · cases hr; exact ⟨rfl, hi⟩
  · cases hr
theorem fr_iret  : px_fr (px_iret ) := by
  intro b X cb cb' _ pc lv st h r hi hr
  unfold px_iret at hr ⊢
  split at hr
  · cases hr; exact ⟨rfl, hi⟩
  · cases hr
theorem fr_aret  : px_fr (px_aret ) := by
  intro b X cb cb' _ pc lv st h r hi hr
  unfold px_aret at hr ⊢
  split at hr
  · cases hr; exact ⟨rfl, hi⟩
  · cases hr; exact ⟨rfl, hi⟩
  · cases hr
theorem fr_vret  : px_fr (px_vret ) := by
  intro b X cb cb' _ pc lv st h r hi hr
  unfold px_vret at hr ⊢
  split at hr
  · cases hr; exact ⟨rfl, hi⟩
  · cases hr
theorem fr_bin0 {f : Int32 → Int32 → Int32} : px_fr (px_bin0 f) := by
  intro b X cb cb' _ pc lv st h r hi hr
  unfold px_bin0 at hr ⊢
  split at hr
  · next y x r0 =>
    cases hc : (decide (y = 0)) with
    | true => rw [hc] at hr; cases hr
    | false =>
      rw [hc] at hr
      cases hr
      try dsimp only
      try rw [hc]
      exact ⟨rfl, hi⟩
  · cases hr
theorem fr_mx {f : Int32 → Int32 → Int32} : px_fr (px_mx f) := by
  intro b X cb cb' _ pc lv st h r hi hr
  unfold px_mx at hr ⊢
  split at hr
  · next y x r0 =>
    cases hc : (Nat.ble (px_cat r0) 8) with
    | false => rw [hc] at hr; cases hr
    | true =>
      rw [hc] at hr
      cases hr
      try dsimp only
      try rw [hc]
      exact ⟨rfl, hi⟩
  · cases hr
theorem fr_zret  : px_fr (px_zret ) := by
  intro b X cb cb' _ pc lv st h r hi hr
  unfold px_zret at hr ⊢
  split at hr
  · next x =>
    cases hc : (x == 0 || x == 1) with
    | false => rw [hc] at hr; cases hr
    | true =>
      rw [hc] at hr
      cases hr
      try dsimp only
      try rw [hc]
      exact ⟨rfl, hi⟩
  · cases hr
theorem fr_bret : px_fr px_bret := by
  intro b X cb cb' _ pc lv st h r hi hr
  unfold px_bret at hr ⊢
  split at hr
  · next x =>
    cases hc : (x == 0) with
    | false => rw [hc] at hr; cases hr
    | true =>
      rw [hc] at hr
      cases hr
      try dsimp only
      try rw [hc]
      exact ⟨rfl, hi⟩
  · cases hr
theorem fr_strv : px_fr px_strv := by
  intro b X cb cb' _ pc lv st h r hi hr
  unfold px_strv at hr ⊢
  split at hr
  · next a r0 =>
    try dsimp only
    cases hc : px_isK a with
    | false => rw [hc] at hr; cases hr
    | true =>
      rw [hc] at hr
      cases hr
      exact ⟨rfl, hi⟩
  · cases hr
theorem fr_strc : px_fr px_strc := by
  intro b X cb cb' _ pc lv st h r hi hr
  unfold px_strc at hr ⊢
  split at hr
  · next a r0 =>
    try dsimp only
    cases hc : px_isK a with
    | false => rw [hc] at hr; cases hr
    | true =>
      rw [hc] at hr
      cases hr
      exact ⟨rfl, hi⟩
  · cases hr
theorem fr_bald : px_fr px_bald := by
  intro b X cb cb' _ pc lv st h r hi hr
  unfold px_bald at hr ⊢
  split at hr
  · next i a r0 =>
    try dsimp only
    cases hc : px_inb i 3 with
    | false => rw [hc] at hr; cases hr
    | true =>
      rw [hc] at hr
      cases h0 : Nat.beq a 3012 with
      | true =>
        rw [h0] at hr
        cases hr
        exact ⟨rfl, hi⟩
      | false =>
        rw [h0] at hr
        cases h1 : Nat.beq a 3013 with
        | false => rw [h1] at hr; cases hr
        | true =>
          rw [h1] at hr
          cases hr
          exact ⟨rfl, hi⟩
  · cases hr
theorem fr_slen : px_fr px_slen := by
  intro b X cb cb' _ pc lv st h r hi hr
  unfold px_slen at hr ⊢
  split at hr
  · next a r0 =>
    try dsimp only
    cases h0 : Nat.beq a 3012 with
    | true =>
      rw [h0] at hr
      cases hr
      exact ⟨rfl, hi⟩
    | false =>
      rw [h0] at hr
      cases h1 : Nat.beq a 3013 with
      | false => rw [h1] at hr; cases hr
      | true =>
        rw [h1] at hr
        cases hr
        exact ⟨rfl, hi⟩
  · cases hr
theorem fr_kald : px_fr px_kald := by
  intro b X cb cb' _ pc lv st h r hi hr
  unfold px_kald at hr ⊢
  split at hr
  · next i a r0 =>
    try dsimp only
    cases hc : px_inb i 6 with
    | false => rw [hc] at hr; cases hr
    | true =>
      rw [hc] at hr
      cases h0 : Nat.beq a 3000 with
      | true =>
        rw [h0] at hr
        cases hr
        exact ⟨rfl, hi⟩
      | false =>
        rw [h0] at hr
        cases h1 : Nat.beq a 3001 with
        | false => rw [h1] at hr; cases hr
        | true =>
          rw [h1] at hr
          cases hr
          exact ⟨rfl, hi⟩
  · cases hr
theorem fr_getf {ci k : Nat} : px_fr (px_getf ci k) := by
  intro b X cb cb' _ pc lv st h r hi hr
  unfold px_getf at hr ⊢
  split at hr
  · next a r0 =>
    split at hr
    · next cj fs hcell =>
      try dsimp only
      rw [px_lf_cell hi hcell]
      cases hb : Nat.beq cj ci with
      | false => rw [hb] at hr; cases hr
      | true =>
        rw [hb] at hr
        dsimp only [cond] at hr
        split at hr
        · next v hv =>
          cases hr
          try dsimp only
          rw [hb, hv]
          exact ⟨rfl, hi⟩
        · cases hr
    · cases hr
  · cases hr
theorem fr_putf {z : Bool} {ci k : Nat} : px_fr (px_putf z ci k) := by
  intro b X cb cb' _ pc lv st h r hi hr
  unfold px_putf at hr ⊢
  split at hr
  · next x a r0 =>
    split at hr
    · next cj fs hcell =>
      try dsimp only
      rw [px_lf_cell hi hcell]
      cases hb : (Nat.beq cj ci && Nat.blt k fs.length && (z || x == 0 || x == 1)) with
      | false => rw [hb] at hr; cases hr
      | true =>
        rw [hb] at hr
        cases hr
        obtain ⟨e1, e2⟩ := px_lf_put (X := X) (.inr (cj, px_stn fs k (.int x))) hi hcell
        try dsimp only
        rw [hb, e1]
        exact ⟨rfl, e2⟩
    · cases hr
  · cases hr
theorem fr_iald : px_fr px_iald := by
  intro b X cb cb' _ pc lv st h r hi hr
  unfold px_iald at hr ⊢
  split at hr
  · next i a r0 =>
    split at hr
    · next n f ha =>
      try dsimp only
      rw [px_lf_arr hi ha]
      cases hb : px_inb i n with
      | false => rw [hb] at hr; cases hr
      | true =>
        rw [hb] at hr
        cases hr
        try dsimp only
        rw [hb]
        exact ⟨rfl, hi⟩
    · cases hr
  · cases hr
theorem fr_iast : px_fr px_iast := by
  intro b X cb cb' _ pc lv st h r hi hr
  unfold px_iast at hr ⊢
  split at hr
  · next x i a r0 =>
    split at hr
    · next n f ha =>
      try dsimp only
      rw [px_lf_arr hi ha]
      cases hb : px_inb i n with
      | false => rw [hb] at hr; cases hr
      | true =>
        rw [hb] at hr
        cases hr
        obtain ⟨e1, e2⟩ := px_lf_put (X := X) (.inl (0, n, .inl (upd f i.toNatClampNeg x))) hi (px_arr_r ha)
        try dsimp only
        rw [hb, e1]
        exact ⟨rfl, e2⟩
    · cases hr
  · cases hr
theorem fr_aald : px_fr px_aald := by
  intro b X cb cb' _ pc lv st h r hi hr
  unfold px_aald at hr ⊢
  split at hr
  · next i a r0 =>
    split at hr
    · next t n f ha =>
      try dsimp only
      rw [px_lf_cell hi ha]
      cases hb : (Nat.beq t 1 && px_inb i n) with
      | false => rw [hb] at hr; cases hr
      | true =>
        rw [hb] at hr
        dsimp only [cond] at hr
        split at hr
        · next k hk =>
          cases hr
          try dsimp only
          rw [hb, hk]
          exact ⟨rfl, hi⟩
        · next hk =>
          cases hr
          try dsimp only
          rw [hb, hk]
          exact ⟨rfl, hi⟩
    · cases hr
  · cases hr
theorem fr_alen : px_fr px_alen := by
  intro b X cb cb' _ pc lv st h r hi hr
  unfold px_alen at hr ⊢
  split at hr
  · next a r0 =>
    split at hr
    · next t n f ha =>
      try dsimp only
      rw [px_lf_cell hi ha]
      cases hb : Nat.beq t 0 with
      | false => rw [hb] at hr; cases hr
      | true =>
        rw [hb] at hr
        cases hr
        try dsimp only
        rw [hb]
        exact ⟨rfl, hi⟩
    · next t n f ha =>
      try dsimp only
      rw [px_lf_cell hi ha]
      cases hb : Nat.beq t 1 with
      | false => rw [hb] at hr; cases hr
      | true =>
        rw [hb] at hr
        cases hr
        try dsimp only
        rw [hb]
        exact ⟨rfl, hi⟩
    · cases hr
  · cases hr
theorem px_lf_isO {b : Option Bool} {X : List va_E} {h : px_H} {q ci : Nat} (hi : px_inv b h) (hq : px_isO h q ci = true) : px_isO (px_lf b X h) q ci = true := by
  obtain ⟨fs, hc⟩ := px_isO_r hq
  have h1 := px_lf_cell (X := X) hi hc
  unfold px_isO
  rw [h1]
  exact Nat.beq_refl ci
theorem fr_callV {j n ci : Nat} : px_fr (px_callV j n ci) := by
  intro b X cb cb' hcb pc lv st h r hi hr
  unfold px_callV at hr ⊢
  split at hr
  · next q as rest hpop =>
    cases hc : (px_isO h q ci && Nat.ble (px_cat rest) 8) with
    | false => rw [hc] at hr; cases hr
    | true =>
      rw [hc] at hr
      dsimp only [cond] at hr
      rw [Bool.and_eq_true] at hc
      split at hr
      · next v h' hcall =>
        cases hr
        obtain ⟨e1, e2⟩ := hcb j (.ref q :: as) h v h' hi hcall
        try rw [hpop]
        try dsimp only
        rw [px_lf_isO hi hc.1, hc.2, e1]
        exact ⟨rfl, e2⟩
      · cases hr
  · cases hr
theorem fr_callK {j n : Nat} : px_fr (px_callK j n) := by
  intro b X cb cb' hcb pc lv st h r hi hr
  unfold px_callK at hr ⊢
  split at hr
  · next q as rest hpop =>
    cases hc : (px_isK q && Nat.ble (px_cat rest) 8) with
    | false => rw [hc] at hr; cases hr
    | true =>
      rw [hc] at hr
      dsimp only [cond] at hr
      rw [Bool.and_eq_true] at hc
      split at hr
      · next v h' hcall =>
        cases hr
        obtain ⟨e1, e2⟩ := hcb j (.ref q :: as) h v h' hi hcall
        try rw [hpop]
        try dsimp only
        first | rw [hc.1, hc.2, e1] | rw [e1]
        exact ⟨rfl, e2⟩
      · cases hr
  · cases hr
theorem fr_callS {j n : Nat} : px_fr (px_callS j n) := by
  intro b X cb cb' hcb pc lv st h r hi hr
  unfold px_callS at hr ⊢
  split at hr
  · next as rest hpop =>
    cases hc : Nat.ble (px_cat rest) 8 with
    | false => rw [hc] at hr; cases hr
    | true =>
      rw [hc] at hr
      dsimp only [cond] at hr
      split at hr
      · next v h' hcall =>
        cases hr
        obtain ⟨e1, e2⟩ := hcb j as h v h' hi hcall
        try rw [hpop]
        try dsimp only
        first | rw [hc, e1] | rw [e1]
        exact ⟨rfl, e2⟩
      · cases hr
  · cases hr
theorem fr_acopy : px_fr px_acopy := by
  intro b X cb cb' _ pc lv st h r hi hr
  unfold px_acopy at hr ⊢
  split at hr
  · next n dp q sp a r0 =>
    split at hr
    · next n0 f n1 g ha hb =>
      try dsimp only
      rw [px_lf_arr hi ha, px_lf_arr hi hb]
      try dsimp only
      cases hc : (decide (0 ≤ sp) && decide (0 ≤ dp) && decide (0 ≤ n) && Nat.ble (sp.toNatClampNeg + n.toNatClampNeg) n0 && Nat.ble (dp.toNatClampNeg + n.toNatClampNeg) n1 && Nat.ble (px_cat r0) 8) with
      | false => rw [hc] at hr; cases hr
      | true =>
        rw [hc] at hr
        cases hr
        obtain ⟨e1, e2⟩ := px_lf_put (X := X) (.inl (0, n1, .inl (va_cpy f g sp.toNatClampNeg dp.toNatClampNeg n.toNatClampNeg))) hi (px_arr_r hb)
        rw [e1]
        exact ⟨rfl, e2⟩
    · cases hr
  · cases hr
def px_frT (code : Nat → Option px_A) : Prop := ∀ (pc : Nat) (act : px_A), code pc = some act → px_fr act
/-- a method's table: machine and frame -/
def px_okF (mm : Nat → Option px_M) (own : String) (cc : ByteArray) (nL : Nat) (ret : Option FieldType) (code : Nat → Option px_A) : Prop := px_okT mm own cc nL ret code ∧ px_frT code
section PXF
variable {mm : Nat → Option px_M} {own : String} {cc : ByteArray} {nL : Nat} {ret : Option FieldType}
theorem okF_node {k : Nat} {a b : Nat → Option px_A} (ha : px_okF mm own cc nL ret a) (hb : px_okF mm own cc nL ret b) : px_okF mm own cc nL ret (px_node k a b) := by
  refine ⟨okT_node ha.1 hb.1, fun pc act h => ?_⟩
  unfold px_node at h
  cases hc : Nat.blt pc k with
  | true => rw [hc] at h; exact ha.2 pc act h
  | false => rw [hc] at h; exact hb.2 pc act h
theorem okF_leaf {k : Nat} {a : px_A} (ha : px_ok mm own cc nL ret k a) (hf : px_fr a) : px_okF mm own cc nL ret (px_leaf k a) := by
  refine ⟨okT_leaf ha, fun pc act h => ?_⟩
  unfold px_leaf at h
  cases hc : Nat.beq pc k with
  | true => rw [hc] at h; cases h; exact hf
  | false => rw [hc] at h; cases h
end PXF
theorem px_fr_loop {b : Option Bool} {X : List va_E} {cb cb' : px_C} {code : Nat → Option px_A} (hT : px_frT code) (hcb : px_frC b X cb cb') : ∀ (n n' pc : Nat) (lv : px_L) (st : List Value) (h : px_H) (v : Option Value) (h' : px_H), n ≤ n' → px_inv b h → px_loop cb code n pc lv st h = some (v, h') → px_loop cb' code n' pc lv st (px_lf b X h) = some (v, px_lf b X h') ∧ px_inv b h'
  | 0, _, _, _, _, _, _, _, _, _, hr => by cases hr
  | n + 1, 0, _, _, _, _, _, _, hn, _, _ => absurd hn (by omega)
  | n + 1, n' + 1, pc, lv, st, h, v, h', hn, hi, hr => by
    unfold px_loop at hr ⊢
    split at hr
    · cases hr
    · next act hact =>
      try rw [hact]
      try dsimp only
      split at hr
      · cases hr
      · next pc' lv' st' h1 hs =>
        obtain ⟨e1, e2⟩ := hT pc act hact b X cb cb' hcb pc lv st h _ hi hs
        rw [e1]
        exact px_fr_loop hT hcb n n' pc' lv' st' h1 v h' (Nat.le_of_succ_le_succ hn) e2 hr
      · next r hs =>
        cases hr
        obtain ⟨e1, e2⟩ := hT pc act hact b X cb cb' hcb pc lv st h _ hi hs
        rw [e1]
        exact ⟨rfl, e2⟩
theorem px_fr_run {b : Option Bool} {X : List va_E} {codes : Nat → Option (Nat × (Nat → Option px_A))} (hC : ∀ j q, codes j = some q → px_frT q.2) : ∀ d d' n n', d ≤ d' → n ≤ n' → px_frC b X (px_run codes d n) (px_run codes d' n')
  | 0, _, _, _, _, _ => fun _ _ _ _ _ _ hr => by cases hr
  | d + 1, 0, _, _, hd, _ => absurd hd (by omega)
  | d + 1, d' + 1, n, n', hd, hn => fun j as h v h' hi hr => by
    have ih := px_fr_run (b := b) (X := X) hC d d' n n' (Nat.le_of_succ_le_succ hd) hn
    unfold px_run at hr ⊢
    split at hr
    · cases hr
    · next q hq =>
      try rw [hq]
      try dsimp only
      cases hb : Nat.ble (px_cat as) q.1 with
      | false => rw [hb] at hr; cases hr
      | true =>
        rw [hb] at hr
        exact px_fr_loop (hC j q hq) ih n n' 0 _ [] h v h' hn hi hr
end
