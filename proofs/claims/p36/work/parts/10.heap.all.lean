/-! part 10.heap -/
section
-- scalars: 0 now.z, 1 kept.z, 2 bits0, 3 bits1, 4 bits2, 5 bits3, 6 row.first, 7 row.end, 8 row.tile, 9 row.joint, 10 row.pieces, 11 row.joints, 12 row.gap, 13 row.touches, 14 row.hides, 15 open, 16 digits, 17 wants, 18 kind, 19 number, 20 mark, 21 images
-- rows of numbers: 0 now.wall at 2, 1 now.kinds at 4, 2 now.marks at 6, 3 now.froms at 8, 4 now.widths at 10, 5 now.tape at 12, 6 now.broken at 14, 7 now.harm at 16, 8 now.waits at 18, 9 kept.wall at 21, 10 kept.kinds at 23, 11 kept.marks at 25, 12 kept.froms at 27, 13 kept.widths at 29, 14 kept.tape at 31, 15 kept.broken at 33, 16 kept.harm at 35, 17 kept.waits at 37, 18 errors at 39, 19 sheet0 at 43, 20 sheet1 at 46, 21 sheet2 at 49, 22 sheet3 at 52, 23 codes at 56, 24 pending at 58, 25 stack at 61, 26 trace at 64
def px_sh : Nat → Option Nat := fun j => match j with
  | 0 => some 42
  | 1 => some 45
  | 2 => some 48
  | 3 => some 51
  | _ => none
def px_CH (Z N : Nat → Int32) (F : Nat → Nat → Int32) : List va_E := [.inr (7, [.ref 1, .ref 20, .int (Z 21), .ref 39, .ref 41, .ref 54, .ref 55, .ref 60, .ref 63]),
  .inr (0, [.ref 2, .ref 4, .ref 6, .ref 8, .ref 10, .ref 12, .ref 14, .ref 16, .ref 18, .int (Z 0)]),
  .inr (1, [.ref 3, .int (N 0)]),
  .inl (0, 7, .inl (F 0)),
  .inr (1, [.ref 5, .int (N 1)]),
  .inl (0, 6, .inl (F 1)),
  .inr (1, [.ref 7, .int (N 2)]),
  .inl (0, 6, .inl (F 2)),
  .inr (1, [.ref 9, .int (N 3)]),
  .inl (0, 6, .inl (F 3)),
  .inr (1, [.ref 11, .int (N 4)]),
  .inl (0, 6, .inl (F 4)),
  .inr (1, [.ref 13, .int (N 5)]),
  .inl (0, 60, .inl (F 5)),
  .inr (1, [.ref 15, .int (N 6)]),
  .inl (0, 60, .inl (F 6)),
  .inr (1, [.ref 17, .int (N 7)]),
  .inl (0, 60, .inl (F 7)),
  .inr (1, [.ref 19, .int (N 8)]),
  .inl (0, 24, .inl (F 8)),
  .inr (0, [.ref 21, .ref 23, .ref 25, .ref 27, .ref 29, .ref 31, .ref 33, .ref 35, .ref 37, .int (Z 1)]),
  .inr (1, [.ref 22, .int (N 9)]),
  .inl (0, 7, .inl (F 9)),
  .inr (1, [.ref 24, .int (N 10)]),
  .inl (0, 6, .inl (F 10)),
  .inr (1, [.ref 26, .int (N 11)]),
  .inl (0, 6, .inl (F 11)),
  .inr (1, [.ref 28, .int (N 12)]),
  .inl (0, 6, .inl (F 12)),
  .inr (1, [.ref 30, .int (N 13)]),
  .inl (0, 6, .inl (F 13)),
  .inr (1, [.ref 32, .int (N 14)]),
  .inl (0, 60, .inl (F 14)),
  .inr (1, [.ref 34, .int (N 15)]),
  .inl (0, 60, .inl (F 15)),
  .inr (1, [.ref 36, .int (N 16)]),
  .inl (0, 60, .inl (F 16)),
  .inr (1, [.ref 38, .int (N 17)]),
  .inl (0, 24, .inl (F 17)),
  .inr (1, [.ref 40, .int (N 18)]),
  .inl (0, 7, .inl (F 18)),
  .inl (1, 4, .inr (.inr (.inr (.inr px_sh)))),
  .inr (5, [.ref 43, .int (Z 2)]),
  .inr (1, [.ref 44, .int (N 19)]),
  .inl (0, 24, .inl (F 19)),
  .inr (5, [.ref 46, .int (Z 3)]),
  .inr (1, [.ref 47, .int (N 20)]),
  .inl (0, 24, .inl (F 20)),
  .inr (5, [.ref 49, .int (Z 4)]),
  .inr (1, [.ref 50, .int (N 21)]),
  .inl (0, 24, .inl (F 21)),
  .inr (5, [.ref 52, .int (Z 5)]),
  .inr (1, [.ref 53, .int (N 22)]),
  .inl (0, 24, .inl (F 22)),
  .inr (4, [.int (Z 6), .int (Z 7), .int (Z 8), .int (Z 9), .int (Z 10), .int (Z 11), .int (Z 12), .int (Z 13), .int (Z 14)]),
  .inr (2, [.ref 56, .ref 58, .int (Z 15), .int (Z 16), .int (Z 17)]),
  .inr (1, [.ref 57, .int (N 23)]),
  .inl (0, 60, .inl (F 23)),
  .inr (1, [.ref 59, .int (N 24)]),
  .inl (0, 60, .inl (F 24)),
  .inr (3, [.ref 61]),
  .inr (1, [.ref 62, .int (N 25)]),
  .inl (0, 60, .inl (F 25)),
  .inr (6, [.ref 64, .int (Z 18), .int (Z 19), .int (Z 20)]),
  .inr (1, [.ref 65, .int (N 26)]),
  .inl (0, 30, .inl (F 26))]
-- the reference: scalars 0 images, 1 at, 2 open, 3 steps, 4 use, 5 pieces, 6 traced, 7 speaks, 8 isParted; rows 0 s, 1 kept, 2 errors, 3 lows, 4 highs, 5 step, 6 named, 7 pile, 8 left, 9 wide, 10 trace, 11 bits, 12 sizes, 13 number, 14 aside
def px_MH (Z : Nat → Int32) (F : Nat → Nat → Int32) : List va_E := [.inr (8, [.ref 1001, .ref 1002, .int (Z 0), .ref 1003, .ref 1004, .ref 1005, .int (Z 1), .int (Z 2), .int (Z 3), .int (Z 4), .ref 1006, .ref 1007, .ref 1008, .ref 1009, .ref 1010, .int (Z 5), .int (Z 6), .ref 1011, .int (Z 7), .int (Z 8), .ref 1012, .ref 1013, .ref 1014, .ref 1015]),
  .inl (0, 370, .inl (F 0)),
  .inl (0, 370, .inl (F 1)),
  .inl (0, 7, .inl (F 2)),
  .inl (0, 6, .inl (F 3)),
  .inl (0, 6, .inl (F 4)),
  .inl (0, 124, .inl (F 5)),
  .inl (0, 128, .inl (F 6)),
  .inl (0, 64, .inl (F 7)),
  .inl (0, 100, .inl (F 8)),
  .inl (0, 100, .inl (F 9)),
  .inl (0, 30, .inl (F 10)),
  .inl (0, 4, .inl (F 11)),
  .inl (0, 4, .inl (F 12)),
  .inl (0, 96, .inl (F 13)),
  .inl (0, 24, .inl (F 14))]
def px_Z0 : Nat → Int32 := fun k => match k with
  | 0 => 1
  | 1 => 1
  | _ => 0
def px_N0 : Nat → Int32 := fun k => match k with
  | 0 => 7
  | 9 => 7
  | 18 => 7
  | _ => 0
def px_w0l : List Int32 := [2000, 150, 2, 0, 1, 0, 150]
def px_w0 : Nat → Int32 := fun j => px_w0l.getD j 0
def px_F0 : Nat → Nat → Int32 := fun k => match k with
  | 0 => px_w0
  | 9 => px_w0
  | _ => fun _ => 0
def px_s0l : List Int32 := [2000, 150, 2, 0, 1, 0, 150, 1]
def px_s0 : Nat → Int32 := fun j => px_s0l.getD j 0
def px_G0 : Nat → Nat → Int32 := fun k => match k with
  | 0 => px_s0
  | 3 => px_K0
  | 4 => px_K1
  | _ => fun _ => 0
def px_C0 : List va_E := px_CH px_Z0 px_N0 px_F0
def px_M0 : List va_E := px_MH (fun _ => 0) px_G0
def px_ans (d n j : Nat) (as : List Value) (h : px_H) : Option Int32 := match px_run px_codes d n j as h with
  | some (some (.int x), _) => some x
  | _ => none
end
/-! part 11.ctor -/
section
/-! ROWS FOR CONSTRUCTORS: the world as a list of cells at real addresses -/
def cx_Wd (D : va_G) (A : Nat → Prop) (H0 : Heap) (ws : va_W) (H : Heap) (locs : List Loc) : Prop := va_P D vwCl ws H ∧ va_D A ws ∧ va_S A H0 H locs
def px_rc (d mc ms : Nat) : Room := { frames := d, cells := mc, slots := ms, locals := 80 * d }
def px_CPre (D : va_G) (tc : Nat → ClassId) (ad : Nat → Nat) (as : List Value) (ws : va_W) (sz : Nat) : Array Value → State → Prop :=
  va_Pc as (fun U => U.heap.size = sz ∧ va_P D vwCl ws U.heap ∧ va_K D vwCl (px_ty tc) U ∧ va_D (fun _ => True) ws ∧ px_KC ad (va_A ws sz) U U.heap)
def px_CM (l : Launch) (D : va_G) (tc : Nat → ClassId) (ad : Nat → Nat) (d mc ms : Nat) (M : px_M) (as : List Value) (wc : va_W) (w1 : List Nat → va_W) : Prop :=
  ∀ sz : Nat, Met l M.1 (px_wj M) (px_rc d mc ms) (px_CPre D tc ad as wc sz) (va_Qv (fun _ : List Nat => True) (fun u t => va_P D vwCl (w1 u) t.heap ∧ va_D (va_A wc sz) (w1 u)) (va_A wc sz)) mc ms (va_A wc sz)
section CX
variable {p : Program} {l : Launch} {e : Env} {R : Room} {s : State} {m : MethodId} {args : Array Value} {below : List Frame} {meth : Method} {c : Code} {cells slots c0 s0 : Nat} {Q : State → Prop} {A : Nat → Prop} {ad : Nat → Nat} {D : va_G} {tc : Nat → ClassId}
variable {own : String} {cc : ByteArray} {nL : Nat} {pc : Nat} {H : Heap} {locs : List Loc} {ls : Array Slot} {rest : List Value} {ws : va_W}
theorem k_free {wc : va_W} (X : px_X own cc nL p R s m args c c0 s0 A ad D tc) (hW : cx_Wd D A s.heap ws H locs) (isC : List Nat) (hC : isC.map (fun i => ws[i]?) = wc.map some) : ∀ q, va_A wc H.size q → A q :=
  va_free hW.2.1 hW.2.2 X.2.2.2.2.2.2.2.2.2.2.2 isC hC
theorem k_pre {wc : va_W} (X : px_X own cc nL p R s m args c c0 s0 A ad D tc) (hW : cx_Wd D A s.heap ws H locs) (isC : List Nat) (hC : isC.map (fun i => ws[i]?) = wc.map some) (hn : va_nd isC = true) (as : List Value) : FrameBlind (px_CPre D tc ad as wc H.size) ∧ ∀ U : State, U.heap = H → s.WarmedH U.vm → px_CPre D tc ad as wc H.size as.toArray U := by
  refine ⟨fun a U g mk q => ?_, fun U hU hWm => ?_⟩
  · obtain ⟨q0, q1, qP, qK, qD, qC⟩ := q
    exact ⟨q0, q1, qP, va_K.moved (u := U) (U := U.calling g mk a) (Vm.Alike.refl U.vm) qK, qD, px_KC.same rfl qC⟩
  · have hF := k_free X hW isC hC
    obtain ⟨hx, hb0, hml, hown, hts, hK, hf1, hf2, hf3, hf4, hKC, hA⟩ := X
    have hP1 : va_P D vwCl wc H := by
      intro k q hq
      have h1 : (isC.map (fun i => ws[i]?))[k]? = some (some q) := by rw [hC, List.getElem?_map, hq]; rfl
      rw [List.getElem?_map] at h1
      cases hi : isC[k]? with
      | none => rw [hi] at h1; cases h1
      | some i => rw [hi] at h1; exact hW.1 i q (Option.some.inj h1)
    refine ⟨rfl, by rw [hU], by rw [hU]; exact hP1, va_K.moved hWm.alike hK, (hW.2.1.sub isC hn hC).weaken (fun _ _ _ _ => trivial), ?_⟩
    rw [hU]
    exact ((hKC.kept hW.2.2.2.1).narrow hF).warm hWm
theorem k_new {ci N i : Nat} {C : String} {T : u_T} {fs : List Value} (ty : Nat → FieldType) (X : px_X own cc nL p R s m args c c0 s0 A ad D tc) (hc : vwCl[ci]? = some (C, T, N)) (hin : ∀ w ∈ u_ws C T N, w ∈ px_words) (hty : ∀ k, k < N → parseFieldDescriptor (T k).2.2.1 = some (ty k)) (hw1 : Cond.classLink own i C ∈ px_words) (hw2 : Cond.instantiable C N ∈ px_words) (hw3 : Cond.initialized C ∈ px_words)
    (hfs : ∀ j, j < N → defaultValue (ty j) = vp_V fs j) (hcells : cells + 1 ≤ R.cells) (hslots : slots + N ≤ R.slots) (hdg : decode cc pc = .ok (.new i, 3)) (hW : cx_Wd D A s.heap ws H locs)
    (kk : ∀ (q : Nat) (H1 : Heap), cx_Wd D A s.heap (ws ++ [(q, .inr (ci, fs))]) H1 locs → W p l e R s m args below meth c H1 locs (cells + 1) (slots + N) Q (F0 m (pc + 3) ls (.ref q :: rest))) : W p l e R s m args below meth c H locs cells slots Q (F0 m pc ls rest) := by
  obtain ⟨hx, hb0, hml, hown, hts, hK, hf1, hf2, hf3, hf4, hKC, hA⟩ := X
  exact va_new hx hb0 hts hin ty hty hown (hts _ hw1) (hts _ hw2) (hts _ hw3) hK hW.1 hW.2.1 hW.2.2 hA hc hfs hcells hslots hdg (fun q H1 a1 a2 a3 => kk q H1 ⟨a1, a2, a3⟩)
theorem k_newa {n : Int32} {L : Nat} (X : px_X own cc nL p R s m args c c0 s0 A ad D tc) (hw : Cond.arrayClass .int ∈ px_words) (hn : ¬ n < 0) (hL : n.toNatClampNeg = L) (hb : L ≤ 1000) (hcells : cells + 1 ≤ R.cells) (hslots : slots + L ≤ R.slots) (hdg : decode cc pc = .ok (.newarray .int, 2)) (hW : cx_Wd D A s.heap ws H locs)
    (kk : ∀ (q : Nat) (H1 : Heap), cx_Wd D A s.heap (ws ++ [(q, .inl (tc 0, L, .inl (fun _ => 0)))]) H1 locs → W p l e R s m args below meth c H1 locs (cells + 1) (slots + L) Q (F0 m (pc + 2) ls (.ref q :: rest))) : W p l e R s m args below meth c H locs cells slots Q (F0 m pc ls (.int n :: rest)) := by
  obtain ⟨hx, hb0, hml, hown, hts, hK, hf1, hf2, hf3, hf4, hKC, hA⟩ := X
  refine va_newa (D := D) (atype := .int) (ty := .int) (a0 := (L, .inl (fun _ => 0))) hx hb0 (hts _ hw) rfl hK hW.1 hW.2.1 hW.2.2 hA (fun _ => rfl) hn hL (by show L * 4 ≤ 536870912; omega) hcells hslots hdg (fun q cA H1 aK a1 a2 a3 => ?_)
  have e : cA = tc 0 := by
    have h1 := (aK.2 2 (cA, .int) rfl).2
    have h2 := (hK.2 0 (tc 0, .int) rfl).2
    exact Option.some.inj (h1.symm.trans h2)
  subst e
  exact kk q H1 ⟨a1, a2, a3⟩
theorem k_newq {n : Int32} {L i : Nat} (X : px_X own cc nL p R s m args c c0 s0 A ad D tc) (hw : Cond.classLink own i RX5 ∈ px_words) (hn : ¬ n < 0) (hL : n.toNatClampNeg = L) (hb : L ≤ 1000) (hcells : cells + 1 ≤ R.cells) (hslots : slots + L ≤ R.slots) (hdg : decode cc pc = .ok (.anewarray i, 3)) (hW : cx_Wd D A s.heap ws H locs)
    (kk : ∀ (q : Nat) (H1 : Heap), cx_Wd D A s.heap (ws ++ [(q, .inl (tc 1, L, .inr (.inr (.inr (.inr (fun _ => none))))))]) H1 locs → W p l e R s m args below meth c H1 locs (cells + 1) (slots + L) Q (F0 m (pc + 3) ls (.ref q :: rest))) : W p l e R s m args below meth c H locs cells slots Q (F0 m pc ls (.int n :: rest)) := by
  obtain ⟨hx, hb0, hml, hown, hts, hK, hf1, hf2, hf3, hf4, hKC, hA⟩ := X
  refine va_newq (D := D) hx hb0 hown (hts _ hw) hKC.2.2.2.2.1 hK hW.1 hW.2.1 hW.2.2 hA hn hL (by omega) hcells hslots hdg (fun q cA H1 aK a1 a2 a3 => ?_)
  have e : cA = tc 1 := by
    have h1 := (aK.2 2 (cA, .object RX5) rfl).2
    have h2 := (hK.2 1 (tc 1, .object RX5) rfl).2
    obtain ⟨_, _, _, _, _, h1⟩ := h1
    obtain ⟨_, _, _, _, _, h2⟩ := h2
    exact Option.some.inj (h1.symm.trans h2)
  subst e
  exact kk q H1 ⟨a1, a2, a3⟩
theorem k_putF {a q0 ci k i N : Nat} {C : String} {T : u_T} {ty : FieldType} {v : Value} {fs : List Value} {ty0 : Nat → FieldType} (X : px_X own cc nL p R s m args c c0 s0 A ad D tc) (hi : meth.name = "<init>") (he : ws[q0]? = some (a, .inr (ci, fs))) (hc : vwCl[ci]? = some (C, T, N)) (hin : ∀ w ∈ u_ws C T N, w ∈ px_words) (hty : ∀ k, k < N → parseFieldDescriptor (T k).2.2.1 = some (ty0 k)) (hnm : ∀ a, a < N → ∀ b, b < N → a ≠ b → (T a).2.1 ≠ (T b).2.1) (hk : k < N)
    (hfin : (T k).2.2.2 = true) (hdecl : (T k).1 = own) (hd : parseFieldDescriptor (T k).2.2.1 = some ty) (hn : narrow ty v = v) (hfit : fits ty v = true) (hl : k < fs.length) (hw : Cond.fieldLink own i (T k).1 (T k).2.1 (T k).2.2.1 ∈ px_words) (hdg : decode cc pc = .ok (.putfield i, 3)) (hW : cx_Wd D A s.heap ws H locs)
    (kk : ∀ (H1 : Heap) (locs1 : List Loc), cx_Wd D A s.heap (ws.set q0 (a, .inr (ci, fs.set k v))) H1 locs1 → W p l e R s m args below meth c H1 locs1 cells slots Q (F0 m (pc + 3) ls rest)) : W p l e R s m args below meth c H locs cells slots Q (F0 m pc ls (v :: .ref a :: rest)) := by
  obtain ⟨hx, hb0, hml, hown, hts, hK, hf1, hf2, hf3, hf4, hKC, hA⟩ := X
  exact va_putF (D := D) hx hb0 hts hin ty0 hty hnm hown hK hW.1 hW.2.1 hW.2.2 q0 he hc k hk (hts _ hw) (fun _ q => q) hfin hi hdecl hd hn hfit hl hdg (fun H1 locs1 a1 a2 a3 => kk H1 locs1 ⟨a1, a2, a3⟩)
theorem k_put {a q0 ci k i N : Nat} {C : String} {T : u_T} {ty : FieldType} {v : Value} {fs : List Value} {ty0 : Nat → FieldType} (X : px_X own cc nL p R s m args c c0 s0 A ad D tc) (he : ws[q0]? = some (a, .inr (ci, fs))) (hc : vwCl[ci]? = some (C, T, N)) (hin : ∀ w ∈ u_ws C T N, w ∈ px_words) (hty : ∀ k, k < N → parseFieldDescriptor (T k).2.2.1 = some (ty0 k)) (hnm : ∀ a, a < N → ∀ b, b < N → a ≠ b → (T a).2.1 ≠ (T b).2.1) (hk : k < N)
    (hfin : (T k).2.2.2 = false) (hd : parseFieldDescriptor (T k).2.2.1 = some ty) (hn : narrow ty v = v) (hfit : fits ty v = true) (hl : k < fs.length) (hw : Cond.fieldLink own i (T k).1 (T k).2.1 (T k).2.2.1 ∈ px_words) (hdg : decode cc pc = .ok (.putfield i, 3)) (hW : cx_Wd D A s.heap ws H locs)
    (kk : ∀ (H1 : Heap) (locs1 : List Loc), cx_Wd D A s.heap (ws.set q0 (a, .inr (ci, fs.set k v))) H1 locs1 → W p l e R s m args below meth c H1 locs1 cells slots Q (F0 m (pc + 3) ls rest)) : W p l e R s m args below meth c H locs cells slots Q (F0 m pc ls (v :: .ref a :: rest)) := by
  obtain ⟨hx, hb0, hml, hown, hts, hK, hf1, hf2, hf3, hf4, hKC, hA⟩ := X
  exact va_put (D := D) hx hb0 hts hin ty0 hty hnm hown hK hW.1 hW.2.1 hW.2.2 q0 he hc k hk (hts _ hw) (fun _ q => q) hfin hd hn hfit hl hdg (fun H1 locs1 a1 a2 a3 => kk H1 locs1 ⟨a1, a2, a3⟩)
theorem k_get {a q0 ci k i N : Nat} {C : String} {T : u_T} {v : Value} {fs : List Value} (X : px_X own cc nL p R s m args c c0 s0 A ad D tc) (he : ws[q0]? = some (a, .inr (ci, fs))) (hc : vwCl[ci]? = some (C, T, N)) (hin : ∀ w ∈ u_ws C T N, w ∈ px_words) (hk : k < N) (hv : fs[k]? = some v) (hw : Cond.fieldLink own i (T k).1 (T k).2.1 (T k).2.2.1 ∈ px_words) (hdg : decode cc pc = .ok (.getfield i, 3)) (hW : cx_Wd D A s.heap ws H locs)
    (kk : W p l e R s m args below meth c H locs cells slots Q (F0 m (pc + 3) ls (v :: rest))) : W p l e R s m args below meth c H locs cells slots Q (F0 m pc ls (.ref a :: rest)) := by
  obtain ⟨hx, hb0, hml, hown, hts, hK, hf1, hf2, hf3, hf4, hKC, hA⟩ := X
  exact va_get (D := D) hx hb0 hts hin hown hK hW.1 q0 he hc k hk (hts _ hw) (fun _ q => q) hv hdg kk
theorem k_iast {a q0 L : Nat} {f : Nat → Int32} {i x : Int32} (X : px_X own cc nL p R s m args c c0 s0 A ad D tc) (he : ws[q0]? = some (a, .inl (tc 0, L, .inl f))) (hin : px_inb i L = true) (hdg : decode cc pc = .ok (.iastore, 1)) (hW : cx_Wd D A s.heap ws H locs)
    (kk : ∀ (H1 : Heap) (locs1 : List Loc), cx_Wd D A s.heap (ws.set q0 (a, .inl (tc 0, L, .inl (upd f i.toNatClampNeg x)))) H1 locs1 → W p l e R s m args below meth c H1 locs1 cells slots Q (F0 m (pc + 1) ls rest)) : W p l e R s m args below meth c H locs cells slots Q (F0 m pc ls (.int x :: .int i :: .ref a :: rest)) := by
  obtain ⟨hx, hb0, hml, hown, hts, hK, hf1, hf2, hf3, hf4, hKC, hA⟩ := X
  exact va_iast (D := D) hx hb0 hK hW.1 hW.2.1 hW.2.2 q0 0 he rfl (px_inb_ok hin) hdg (fun H1 locs1 a1 a2 a3 => kk H1 locs1 ⟨a1, a2, a3⟩)
theorem k_astq {a v q0 qk L : Nat} {vs : List Value} {f : Nat → Option Nat} {i : Int32} (X : px_X own cc nL p R s m args c c0 s0 A ad D tc) (he : ws[q0]? = some (a, .inl (tc 1, L, .inr (.inr (.inr (.inr f)))))) (hv : ws[qk]? = some (v, .inr (5, vs))) (hin : px_inb i L = true) (hdg : decode cc pc = .ok (.aastore, 1)) (hW : cx_Wd D A s.heap ws H locs)
    (kk : ∀ (H1 : Heap) (locs1 : List Loc), cx_Wd D A s.heap (ws.set q0 (a, .inl (tc 1, L, .inr (.inr (.inr (.inr (va_up f i.toNatClampNeg (some v)))))))) H1 locs1 → W p l e R s m args below meth c H1 locs1 cells slots Q (F0 m (pc + 1) ls rest)) : W p l e R s m args below meth c H locs cells slots Q (F0 m pc ls (.ref v :: .int i :: .ref a :: rest)) := by
  obtain ⟨hx, hb0, hml, hown, hts, hK, hf1, hf2, hf3, hf4, hKC, hA⟩ := X
  exact va_astq (D := D) (r := (RX5, TX5, 2)) hx hb0 hK hW.1 hW.2.1 hW.2.2 q0 1 qk 5 he rfl hv rfl (px_inb_ok hin) hdg (fun H1 locs1 a1 a2 a3 => kk H1 locs1 ⟨a1, a2, a3⟩)
theorem k_catn (as : List Value) : (as.map fun v => v.category).sum = px_cat as := by
  induction as with
  | nil => rfl
  | cons v r ih =>
    show v.category + (r.map fun v => v.category).sum = v.category + px_cat r
    rw [ih]
/-- Object.<init>() -/
theorem k_obj {a i : Nat} (X : px_X own cc nL p R s m args c c0 s0 A ad D tc) (hw1 : Cond.methodLink own i Lib.objectInit ∈ px_words) (hw2 : Cond.instanceMethod Lib.objectInit ∈ px_words) (hw3 : Cond.code Lib.objectInit ⟨#[0xb1]⟩ 1 none ∈ px_words) (hl : ls.size = nL) (h8 : px_cat rest ≤ 8) (hdg : decode cc pc = .ok (.invokespecial i, 3))
    (kk : W p l e R s m args below meth c H locs cells slots Q (F0 m (pc + 3) ls rest)) : W p l e R s m args below meth c H locs cells slots Q (F0 m pc ls (.ref a :: rest)) := by
  obtain ⟨hx, hb0, hml, hown, hts, hK, hf1, hf2, hf3, hf4, hKC, hA⟩ := X
  have hcat := k_catn rest
  refine W.objInit hx hb0 hown (hts _ hw1) (hts _ hw2) (hts _ hw3) rfl (by rw [hml]; exact hl) rfl hdg hf1 ?_ kk
  have h2 : 2 * (F0 m pc ls (.ref a :: rest)).monitorRoom + (rest.map fun v => v.category).sum ≤ 8 := lv_room (by rw [hcat]; exact h8)
  omega
/-- behind the call of a constructor -/
theorem k_back {wc wr : va_W} {w1 : List Nat → va_W} {mc ms : Nat} {st0 : List Value} {av : Array Value} (X : px_X own cc nL p R s m args c c0 s0 A ad D tc) (isC isR : List Nat) (hC : isC.map (fun i => ws[i]?) = wc.map some) (hR : isR.map (fun i => ws[i]?) = wr.map some) (hn : va_nd isR = true) (hdis : ∀ i ∈ isR, i ∉ isC) (hW : cx_Wd D A s.heap ws H locs)
    (hr : va_Run p l e R s m args below meth c H locs cells slots mc ms (F0 m pc ls st0) rest (va_Qv (fun _ : List Nat => True) (fun u t => va_P D vwCl (w1 u) t.heap ∧ va_D (va_A wc H.size) (w1 u)) (va_A wc H.size) av) (va_A wc H.size))
    (kk : ∀ (u : List Nat) (H1 : Heap) (locs1 : List Loc), cx_Wd D A s.heap (wr ++ w1 u) H1 locs1 → W p l e R s m args below meth c H1 locs1 (cells + mc) (slots + ms) Q (F0 m (pc + 3) ls rest)) : W p l e R s m args below meth c H locs cells slots Q (F0 m pc ls st0) := by
  have hF := k_free X hW isC hC
  refine va_callv hr hW.2.2 (fun q _ h => hF q h) hF (fun u t H1 locs1 ht hvm _ hB hz hk hS => ?_)
  obtain ⟨hP1, hD1⟩ := hB
  rw [ht] at hP1
  obtain ⟨hP, hD⟩ := va_join hW.1 hW.2.1 isC isR hC hR hn hdis hk hF hP1 hD1
  exact kk u H1 locs1 ⟨hP, hD, hS⟩
theorem k_ctor {M : px_M} {n i b d mc ms : Nat} {as : List Value} {wc wr : va_W} {w1 : List Nat → va_W} (hMet : px_CM l D tc ad d mc ms M (.ref b :: as) wc w1) (isC isR : List Nat) (X : px_X own cc nL p R s m args c c0 s0 A ad D tc) (hM : px_lk1 M n) (hi : M.1.name = "<init>") (hret : M.2.2.2 = none) (hw1 : Cond.methodLink own i M.1 ∈ px_words) (hw2 : Cond.instanceMethod M.1 ∈ px_words) (hw4 : Cond.initialized M.1.cls ∈ px_words)
    (hC : isC.map (fun i => ws[i]?) = wc.map some) (hR : isR.map (fun i => ws[i]?) = wr.map some) (hn : va_nd isR = true) (hnC : va_nd isC = true) (hdis : ∀ i ∈ isR, i ∉ isC) (hlen : as.length = n) (h8 : px_cat rest ≤ 8) (hfr : d + 1 ≤ R.frames ∧ 80 + 80 * d ≤ R.locals) (hcells : cells + mc ≤ R.cells ∧ slots + ms ≤ R.slots) (hl : ls.size = nL) (hdg : decode cc pc = .ok (.invokespecial i, 3)) (hW : cx_Wd D A s.heap ws H locs)
    (kk : ∀ (u : List Nat) (H1 : Heap) (locs1 : List Loc), cx_Wd D A s.heap (wr ++ w1 u) H1 locs1 → W p l e R s m args below meth c H1 locs1 (cells + mc) (slots + ms) Q (F0 m (pc + 3) ls rest)) : W p l e R s m args below meth c H locs cells slots Q (F0 m pc ls (as.reverse ++ .ref b :: rest)) := by
  have hpre := k_pre X hW isC hC hnC (.ref b :: as)
  have X0 := X
  obtain ⟨hx, hb0, hml, hown, hts, hK, hf1, hf2, hf3, hf4, hKC, hA⟩ := X
  obtain ⟨y, by_, mL, rt⟩ := M
  dsimp only at hret
  subst hret
  refine k_back X0 isC isR hC hR hn hdis hW (va_runI (As := as) (b := b) (rest := rest) (n := n) (Ts := px_words) (nL := nL) (own := own) (index := i) (bytes := by_) (maxL := mL) (cc := cc) ⟨hx, hb0, hml, hown, hts⟩ (hMet H.size) ⟨callB_of n hts (px_goodM hM.1) rfl rfl rfl (hts _ hw4) (hts _ hw1) hM.2.1 ⟨hfr.1, ?_⟩, hi, hts _ hw2⟩ hpre rfl hlen hl rfl (lv_room (by rw [k_catn]; exact h8)) hdg hcells) kk
  have h2 : mL ≤ 61 := hM.2.2
  show 8 + (mL + 11) + 80 * d ≤ R.locals
  omega
theorem k_ctorN {M : px_M} {n i b d mc ms : Nat} {as : List Value} {wc wr : va_W} {w1 : List Nat → va_W} {host : String} (hMet : px_CM l D tc ad d mc ms M (.ref b :: as) wc w1) (isC isR : List Nat) (X : px_X own cc nL p R s m args c c0 s0 A ad D tc) (hM : px_lk1 M n) (hi : M.1.name = "<init>") (hret : M.2.2.2 = none) (hw1 : (own, i, M.1, host) ∈ px_nest) (hw2 : Cond.instanceMethod M.1 ∈ px_words) (hw4 : Cond.initialized M.1.cls ∈ px_words)
    (hC : isC.map (fun i => ws[i]?) = wc.map some) (hR : isR.map (fun i => ws[i]?) = wr.map some) (hn : va_nd isR = true) (hnC : va_nd isC = true) (hdis : ∀ i ∈ isR, i ∉ isC) (hlen : as.length = n) (h8 : px_cat rest ≤ 8) (hfr : d + 1 ≤ R.frames ∧ 80 + 80 * d ≤ R.locals) (hcells : cells + mc ≤ R.cells ∧ slots + ms ≤ R.slots) (hl : ls.size = nL) (hdg : decode cc pc = .ok (.invokespecial i, 3)) (hW : cx_Wd D A s.heap ws H locs)
    (kk : ∀ (u : List Nat) (H1 : Heap) (locs1 : List Loc), cx_Wd D A s.heap (wr ++ w1 u) H1 locs1 → W p l e R s m args below meth c H1 locs1 (cells + mc) (slots + ms) Q (F0 m (pc + 3) ls rest)) : W p l e R s m args below meth c H locs cells slots Q (F0 m pc ls (as.reverse ++ .ref b :: rest)) := by
  have hpre := k_pre X hW isC hC hnC (.ref b :: as)
  have X0 := X
  obtain ⟨hx, hb0, hml, hown, hts, hK, hf1, hf2, hf3, hf4, hKC, hA⟩ := X
  obtain ⟨y, by_, mL, rt⟩ := M
  dsimp only at hret
  subst hret
  refine k_back X0 isC isR hC hR hn hdis hW (va_runIN (As := as) (b := b) (rest := rest) (n := n) (Ts := px_words) (nL := nL) (own := own) (host := host) (index := i) (bytes := by_) (maxL := mL) (cc := cc) ⟨hx, hb0, hml, hown, hts⟩ (hMet H.size) ⟨va_cnB n hts (px_goodM hM.1) rfl rfl rfl (hKC.2.2.2.1 _ hw1) (hts _ hw4) hM.2.1 ⟨hfr.1, ?_⟩, hi, hts _ hw2⟩ hpre rfl hlen hl rfl (lv_room (by rw [k_catn]; exact h8)) hdg hcells) kk
  have h2 : mL ≤ 61 := hM.2.2
  show 8 + (mL + 11) + 80 * d ≤ R.locals
  omega
/-- a constructor's contract out of the walk of its body -/
theorem cx_of {M : px_M} {d mc ms : Nat} {as : List Value} {wc : va_W} {w1 : List Nat → va_W} (hy : plainName M.1.cls = true) (hi : M.1.name = "<init>") (hret : M.2.2.2 = none) (hle : px_cat as ≤ M.2.2.1) (hd : 1 ≤ d)
    (body : ∀ (p : Program) (e : Env) (s : State) (m : MethodId) (below : List Frame) (meth : Method) (c : Code) (ls : Array Slot) (A : Nat → Prop) (Q : State → Prop), px_X M.1.cls M.2.1 M.2.2.1 p (px_rc d mc ms) s m as.toArray c 0 0 A ad D tc → meth.name = "<init>" → cx_Wd D A s.heap wc s.heap [] → lv_has ls M.2.2.1 (lv_args 0 as) →
      (∀ (u : List Nat) (pcr : Nat) (H1 : Heap) (locs1 : List Loc) (ls1 : Array Slot), cx_Wd D A s.heap (w1 u) H1 locs1 → decode M.2.1 pcr = .ok (.return_, 1) → W p l e (px_rc d mc ms) s m as.toArray below meth c H1 locs1 mc ms Q (F0 m pcr ls1 [])) →
      W p l e (px_rc d mc ms) s m as.toArray below meth c s.heap [] 0 0 Q (F0 m 0 ls [])) : px_CM l D tc ad d mc ms M as wc w1 := by
  intro sz
  refine Met.ofW (cc := M.2.1) (maxL := M.2.2.1) (ret := M.2.2.2) hy rfl ?_
  intro p e s m args below meth c s₁ B hml hv
  obtain ⟨rfl, hsz, hP, hK, hD0, hKC⟩ := hv
  subst hsz
  have hts : ∀ w ∈ px_wj M, w.before as.toArray s = true := atoms_spec (ws := px_wj M) B.pre
  have hown : s.vm.findClass M.1.cls = some m.cls := findClass_of_methodNamed B.named
  have hlocks := B.notSynchronized
  have hin : meth.name = "<init>" := (name_of_methodNamed B.named B.method).1.trans hi
  have hD := hD0.self (sz := s.heap.size)
  have hsl : (lg_sl as).length = px_cat as := by
    clear hle body hts hK hKC hP hD hD0 hown hin B
    induction as with
    | nil => rfl
    | cons v r ih =>
      have e : lg_sl (v :: r) = (if v.category = 2 then [Slot.val v, .second] else [.val v]) ++ lg_sl r := rfl
      rw [e, List.length_append, ih]
      cases v <;> rfl
  have hl := lv_entry as (n := M.2.2.1) (by rw [hsl]; exact hle)
  rw [lg_entry_eq]
  generalize (lg_sl as ++ List.replicate (M.2.2.1 - (lg_sl as).length) Slot.unset).toArray = ls at hl ⊢
  refine body p e s m below meth c ls (va_A wc s.heap.size) _ ⟨B.exec, B.bytes, hml, hown, fun w hw => hts w (List.mem_cons_of_mem _ hw), hK, hd, by show 80 ≤ 80 * d; omega, Nat.zero_le _, Nat.zero_le _, hKC, fun q hq => Or.inr hq⟩ hin ⟨hP, hD, va_S.rf⟩ hl ?_
  intro u pcr H1 locs1 ls1 hW hdg
  exact W.vret B.exec B.bytes (by rw [← hret]; exact B.returns) (fun t ht hWm => ⟨⟨u, rfl, trivial, by rw [ht]; exact hW.1, hW.2.1⟩, hW.2.2.F ht⟩) hW.2.2.2.2 hdg
theorem cx_sub {ws' : va_W} {H0 : Heap} (is : List Nat) (hn : va_nd is = true) (hs : is.map (fun i => ws[i]?) = ws'.map some) (hW : cx_Wd D A H0 ws H locs) : cx_Wd D A H0 ws' H locs := by
  refine ⟨fun k q hq => ?_, hW.2.1.sub is hn hs, hW.2.2⟩
  have h1 : (is.map (fun i => ws[i]?))[k]? = some (some q) := by rw [hs, List.getElem?_map, hq]; rfl
  rw [List.getElem?_map] at h1
  cases hi : is[k]? with
  | none => rw [hi] at h1; cases h1
  | some i => rw [hi] at h1; exact hW.1 i q (Option.some.inj h1)
def px_ad2 (adr ad : Nat → Nat) : Nat → Nat := fun k => cond (Nat.blt k 1000) (adr k) (ad k)
/-- a call of the pure machine's, without an answer, on some cells of the world -/
theorem k_purev {M : px_M} {n i ci N d : Nat} {T : u_T} {adr : Nat → Nat} {as : List Value} {h h' : px_H} {wr : va_W} {fs : List Value} (hMet : px_Met l D tc (px_ad2 adr ad) (px_rm d) M (.ref 0 :: as) h none h') (hcell : px_cell h 0 = some (.inr (ci, fs))) (hc : vwCl[ci]? = some (M.1.cls, T, N)) (isC isR : List Nat) (X : px_X own cc nL p R s m args c c0 s0 A ad D tc) (hM : px_lk1 M n)
    (hw1 : Cond.methodLink own i M.1 ∈ px_words) (hw2 : Cond.instanceMethod M.1 ∈ px_words) (hw3 : Cond.selects M.1.cls M.1 M.1 ∈ px_words) (hw4 : Cond.initialized M.1.cls ∈ px_words)
    (hC : isC.map (fun i => ws[i]?) = (px_ws tc (px_ad2 adr ad) h).map some) (hR : isR.map (fun i => ws[i]?) = wr.map some) (hn : va_nd isR = true) (hnC : va_nd isC = true) (hdis : ∀ i ∈ isR, i ∉ isC) (hlen : as.length = n) (h8 : px_cat rest ≤ 8) (hfr : d + 1 ≤ R.frames ∧ 80 + 80 * d ≤ R.locals) (hcells : cells ≤ R.cells ∧ slots ≤ R.slots) (hl : ls.size = nL) (hdg : decode cc pc = .ok (.invokevirtual i, 3)) (hW : cx_Wd D A s.heap ws H locs)
    (kk : ∀ (H1 : Heap) (locs1 : List Loc), cx_Wd D A s.heap (wr ++ px_ws tc (px_ad2 adr ad) h') H1 locs1 → W p l e R s m args below meth c H1 locs1 cells slots Q (F0 m (pc + 3) ls rest)) : W p l e R s m args below meth c H locs cells slots Q (F0 m pc ls ((px_ms (px_ad2 adr ad) as).reverse ++ .ref (adr 0) :: rest)) := by
  have hpre := k_pre X hW isC hC hnC (px_ms (px_ad2 adr ad) (.ref 0 :: as))
  have hF := k_free X hW isC hC
  have X0 := X
  obtain ⟨hx, hb0, hml, hown, hts, hK, hf1, hf2, hf3, hf4, hKC, hA⟩ := X
  have hWc := cx_sub isC hnC hC hW
  have hrun := va_runV (p := p) (l := l) (e := e) (R := R) (s := s) (m := m) (args := args) (below := below) (meth := meth) (c := c) (H := H) (locs := locs) (cells := cells) (slots := slots) (g := F0 m pc ls ((px_ms (px_ad2 adr ad) as).reverse ++ .ref (adr 0) :: rest)) (As := px_ms (px_ad2 adr ad) as) (b := adr 0) (rest := rest) (C := M.1.cls) (n := n) (Ts := px_words) (nL := nL) (own := own) (index := i) (bytes := M.2.1) (maxL := M.2.2.1) (ret := M.2.2.2) (cc := cc) ⟨hx, hb0, hml, hown, hts⟩ (hMet H.size)
    ⟨callB_of n hts (px_goodM hM.1) rfl rfl rfl (hts _ hw4) (hts _ hw1) hM.2.1 ⟨hfr.1, by have h2 := hM.2.2; show 8 + (M.2.2.1 + 11) + 80 * d ≤ R.locals; omega⟩, hts _ hw2, hts _ hw3⟩
    ⟨px_blind _ _ _ _ _ _, va_recv hK hWc.1 hc (px_ws_get tc (px_ad2 adr ad) hcell), fun U hU hWm => hpre.2 U hU hWm⟩ rfl (by simp [px_ms, hlen]) hl rfl (lv_room (by rw [k_catn]; exact h8)) hdg ⟨by omega, by omega⟩
  intro T hT Xs
  obtain ⟨v1, st₀, t, T', L, h0, X', hL, e1, e2, ⟨hv, hP1, hD1, hz, hk⟩, st⟩ := hrun T hT Xs
  rw [h0] at hz hk
  have hv := Outcome.returned.inj hv
  subst hv
  obtain ⟨hP, hD⟩ := va_join hW.1 hW.2.1 isC isR hC hR hn hdis hk hF hP1 hD1
  have hS1 : va_S A s.heap T'.heap (locs ++ L) := ⟨Nat.le_trans hW.2.2.1 (by rw [e1]; exact hz), fun q h1 h2 => by rw [e1, hk q (Nat.lt_of_lt_of_le h1 hW.2.2.1) (fun z => h2 (hF q z))]; exact hW.2.2.2.1 q h1 h2, fun q hq => by
      rcases List.mem_append.mp hq with h | h
      · exact hW.2.2.2.2 q h
      · exact hF _ (hL q h)⟩
  rw [← e1] at hP
  obtain ⟨t2, a1, b1⟩ := kk T'.heap (locs ++ L) ⟨hP, hD, hS1⟩ T' rfl X'
  exact ⟨t2, st t2 a1, b1⟩
theorem k_max {i : Nat} {x y : Int32} (X : px_X own cc nL p R s m args c c0 s0 A ad D tc) (hw1 : Cond.methodLink own i Lib.Math.max.name ∈ px_words) (hw2 : Cond.static Lib.Math.max.name ∈ px_words) (hw3 : Cond.initialized "java/lang/Math" ∈ px_words) (hw4 : Cond.code Lib.Math.max.name Lib.Math.max.code 2 (some .int) ∈ px_words) (hl : ls.size = nL) (h8 : px_cat rest ≤ 8) (hc : cells ≤ R.cells) (hs : slots ≤ R.slots) (hdg : decode cc pc = .ok (.invokestatic i, 3))
    (kk : W p l e R s m args below meth c H locs cells slots Q (F0 m (pc + 3) ls (.int (if x < y then y else x) :: rest))) : W p l e R s m args below meth c H locs cells slots Q (F0 m pc ls (.int y :: .int x :: rest)) := by
  obtain ⟨hx, hb0, hml, hown, hts, hK, hf1, hf2, hf3, hf4, hKC, hA⟩ := X
  exact va_mmax hx hb0 (by rw [hml, hl]) hown (hts _ hw1) (hts _ hw2) (hts _ hw3) (hts _ hw4) hf1 (by rw [k_catn]; omega) hc hs hdg kk
end CX
end
/-! part 12.ctors -/
section
def pmc_X1 : px_M := (⟨"FromTheMiddle$Numbers", "<init>", "(I)V"⟩, prog_3_method_1_code, 2, none)
theorem lkc_X1 : px_lk1 pmc_X1 1 := ⟨wq_119, ⟨by decide +kernel, by decide +kernel, by decide +kernel⟩, by decide⟩
def pmc_X5 : px_M := (⟨"FromTheMiddle$Sheet", "<init>", "()V"⟩, prog_7_method_1_code, 1, none)
theorem lkc_X5 : px_lk1 pmc_X5 0 := ⟨wq_182, ⟨by decide +kernel, by decide +kernel, by decide +kernel⟩, by decide⟩
def pmc_X4 : px_M := (⟨"FromTheMiddle$Row", "<init>", "()V"⟩, prog_6_method_1_code, 1, none)
theorem lkc_X4 : px_lk1 pmc_X4 0 := ⟨wq_199, ⟨by decide +kernel, by decide +kernel, by decide +kernel⟩, by decide⟩
def pmc_X2 : px_M := (⟨"FromTheMiddle$Reader", "<init>", "()V"⟩, prog_4_method_1_code, 1, none)
theorem lkc_X2 : px_lk1 pmc_X2 0 := ⟨wq_238, ⟨by decide +kernel, by decide +kernel, by decide +kernel⟩, by decide⟩
def pmc_X3 : px_M := (⟨"FromTheMiddle$Reckoner", "<init>", "()V"⟩, prog_5_method_1_code, 1, none)
theorem lkc_X3 : px_lk1 pmc_X3 0 := ⟨wq_263, ⟨by decide +kernel, by decide +kernel, by decide +kernel⟩, by decide⟩
def pmc_X6 : px_M := (⟨"FromTheMiddle$Voices", "<init>", "()V"⟩, prog_8_method_1_code, 1, none)
theorem lkc_X6 : px_lk1 pmc_X6 0 := ⟨wq_275, ⟨by decide +kernel, by decide +kernel, by decide +kernel⟩, by decide⟩
def pmc_X0 : px_M := (⟨"FromTheMiddle$Kept", "<init>", "()V"⟩, prog_2_method_1_code, 1, none)
theorem lkc_X0 : px_lk1 pmc_X0 0 := ⟨wq_113, ⟨by decide +kernel, by decide +kernel, by decide +kernel⟩, by decide⟩
def pmc_X7 : px_M := (⟨"FromTheMiddle", "<init>", "()V"⟩, prog_1_method_1_code, 1, none)
theorem lkc_X7 : px_lk1 pmc_X7 0 := ⟨wq_105, ⟨by decide +kernel, by decide +kernel, by decide +kernel⟩, by decide⟩
def pmc_X8 : px_M := (⟨"FromTheMiddleModel", "<init>", "()V"⟩, prog_10_method_1_code, 1, none)
theorem lkc_X8 : px_lk1 pmc_X8 0 := ⟨wq_897, ⟨by decide +kernel, by decide +kernel, by decide +kernel⟩, by decide⟩
theorem px_w0_eq : upd (upd (upd (upd (upd (upd (upd (fun _ => (0 : Int32)) 0 2000) 1 150) 2 2) 3 0) 4 1) 5 0) 6 150 = px_w0 := by
  funext j
  match j with
  | 0 => rfl
  | 1 => rfl
  | 2 => rfl
  | 3 => rfl
  | 4 => rfl
  | 5 => rfl
  | 6 => rfl
  | n + 7 => rfl
theorem px_sh_eq (b0 b1 b2 b3 : Nat) : va_up (va_up (va_up (va_up (fun _ => (none : Option Nat)) 0 (some b0)) 1 (some b1)) 2 (some b2)) 3 (some b3) = (fun j => match j with
  | 0 => some b0
  | 1 => some b1
  | 2 => some b2
  | 3 => some b3
  | _ => none) := by
  funext j
  match j with
  | 0 => rfl
  | 1 => rfl
  | 2 => rfl
  | 3 => rfl
  | n + 4 => rfl
theorem px_K0_eq : upd (upd (upd (upd (upd (upd (fun _ => (0 : Int32)) 0 100) 1 50) 2 0) 3 (-9)) 4 1) 5 0 = px_K0 := by
  funext j
  match j with
  | 0 => rfl
  | 1 => rfl
  | 2 => rfl
  | 3 => rfl
  | 4 => rfl
  | 5 => rfl
  | n + 6 => rfl
theorem px_K1_eq : upd (upd (upd (upd (upd (upd (fun _ => (0 : Int32)) 0 4000) 1 200) 2 9) 3 9) 4 8) 5 1 = px_K1 := by
  funext j
  match j with
  | 0 => rfl
  | 1 => rfl
  | 2 => rfl
  | 3 => rfl
  | 4 => rfl
  | 5 => rfl
  | n + 6 => rfl
theorem px_s0_eq : upd (upd (upd (upd (upd (upd (fun _ => (0 : Int32)) 7 1) 0 2000) 1 150) 2 2) 4 1) 6 150 = px_s0 := by
  funext j
  match j with
  | 0 => rfl
  | 1 => rfl
  | 2 => rfl
  | 3 => rfl
  | 4 => rfl
  | 5 => rfl
  | 6 => rfl
  | 7 => rfl
  | n + 8 => rfl
theorem px_e0_eq : upd (upd (upd (upd (upd (upd (upd (fun _ => (0 : Int32)) 0 0) 1 0) 2 0) 3 0) 4 0) 5 0) 6 0 = (fun _ => 0) := by
  funext j
  match j with
  | 0 => rfl
  | 1 => rfl
  | 2 => rfl
  | 3 => rfl
  | 4 => rfl
  | 5 => rfl
  | 6 => rfl
  | n + 7 => rfl
/-- a row of numbers, empty, of a limit -/
abbrev w_num (tc : Nat → ClassId) (o a L : Nat) : va_W := [(o, .inr (1, [.ref a, .int 0])), (a, .inl (tc 0, L, .inl (fun _ => 0)))]
set_option maxRecDepth 100000 in
set_option maxHeartbeats 4000000 in
theorem ci_X1 {l : Launch} {D : va_G} {tc : Nat → ClassId} {ad : Nat → Nat} (o : Nat) {L : Nat} {i : Int32} (h1 : ¬ i < 0) (h2 : i.toNatClampNeg = L) (h3 : L ≤ 1000) : px_CM l D tc ad 2 1 L pmc_X1 [.ref o, .int i] [(o, .inr (1, [.null, .int 0]))] (fun u => [(o, .inr (1, [.ref ((u.getD 0 0)), .int 0])), ((u.getD 0 0), .inl (tc 0, L, .inl (fun _ => 0)))]) := by
  refine cx_of (by decide +kernel) rfl rfl (Nat.le_of_ble_eq_true rfl) (by decide) ?_
  intro p e s m below meth c ls A Q X hin hW hl fin
  have hl : lv_has ls 2 [(0, .ref o), (1, .int i)] := hl
  refine lv_aload_n X.1 X.2.1 (i := 0) (k := 0) (by decide +kernel) rfl (lv_at hl 0 rfl) ?_
  refine k_obj X wq_120 wq_107 wq_108 hl.1 (Nat.le_of_ble_eq_true rfl) (by decide +kernel) ?_
  refine lv_aload_n X.1 X.2.1 (i := 0) (k := 0) (by decide +kernel) rfl (lv_at hl 0 rfl) ?_
  refine lv_iload_n X.1 X.2.1 (i := 1) (k := 1) (by decide +kernel) rfl (lv_at hl 1 rfl) ?_
  refine lv_iconst (n := 0) (v := 0) X.1 X.2.1 (by decide +kernel) (by decide +kernel) ?_
  refine k_max (i := 7) X wq_121 wq_122 wq_88 wq_123 hl.1 (Nat.le_of_ble_eq_true rfl) (Nat.zero_le _) (Nat.zero_le _) (by decide +kernel) ?_
  rw [if_neg h1]
  refine k_newa (L := L) X wq_131 h1 h2 h3 (by show 0 + 1 ≤ 1; omega) (by show 0 + L ≤ L; omega) (by decide +kernel) hW (fun q1 H hW => ?_)
  have hW : cx_Wd D A s.heap [(o, .inr (1, [.null, .int 0])), (q1, .inl (tc 0, L, .inl (fun _ => 0)))] H _ := hW
  refine k_putF (ci := 1) (k := 0) (ty := .array .int) (v := .ref q1) (q0 := 0) X hin rfl rfl inw_1 tyX1_ok nmX1 (by decide) rfl rfl (by decide +kernel) rfl rfl (Nat.le_of_ble_eq_true rfl) wq_124 (by decide +kernel) hW (fun H locs hW => ?_)
  have hW : cx_Wd D A s.heap [(o, .inr (1, [.ref q1, .int 0])), (q1, .inl (tc 0, L, .inl (fun _ => 0)))] H _ := hW
  have hW := cx_sub (ws' := [(o, .inr (1, [.ref q1, .int 0])), (q1, .inl (tc 0, L, .inl (fun _ => 0)))]) [0, 1] (by decide) rfl hW
  refine W.widen (k := 1) (n := L) (by omega) (by omega) ?_
  exact fin [q1] _ _ _ _ hW (by decide +kernel)
set_option maxRecDepth 100000 in
set_option maxHeartbeats 4000000 in
theorem ci_X5 {l : Launch} {D : va_G} {tc : Nat → ClassId} {ad : Nat → Nat} (o : Nat) : px_CM l D tc ad 4 2 26 pmc_X5 [.ref o] [(o, .inr (5, [.null, .int 0]))] (fun u => [(o, .inr (5, [.ref (u.getD 0 0), .int 0])), ((u.getD 0 0), .inr (1, [.ref ((u.getD 1 0)), .int 0])), ((u.getD 1 0), .inl (tc 0, 24, .inl (fun _ => 0)))]) := by
  refine cx_of (by decide +kernel) rfl rfl (Nat.le_of_ble_eq_true rfl) (by decide) ?_
  intro p e s m below meth c ls A Q X hin hW hl fin
  have hl : lv_has ls 1 [(0, .ref o)] := hl
  refine lv_aload_n X.1 X.2.1 (i := 0) (k := 0) (by decide +kernel) rfl (lv_at hl 0 rfl) ?_
  refine k_obj X wq_183 wq_107 wq_108 hl.1 (Nat.le_of_ble_eq_true rfl) (by decide +kernel) ?_
  refine lv_aload_n X.1 X.2.1 (i := 0) (k := 0) (by decide +kernel) rfl (lv_at hl 0 rfl) ?_
  refine k_new (ci := 1) (fs := [.null, .int 0]) tyX1 X rfl inw_1 tyX1_ok wq_184 wq_116 wq_87 (fun j hj => by rcases (show j = 0 ∨ j = 1 by omega) with rfl | rfl <;> rfl) (Nat.le_of_ble_eq_true rfl) (Nat.le_of_ble_eq_true rfl) (by decide +kernel) hW (fun q1 H hW => ?_)
  have hW : cx_Wd D A s.heap [(o, .inr (5, [.null, .int 0])), (q1, .inr (1, [.null, .int 0]))] H _ := hW
  refine lv_dup X.1 X.2.1 (by decide +kernel) rfl ?_
  refine lv_bipush (n := 24) (v := 24) X.1 X.2.1 (by decide +kernel) (by decide +kernel) ?_
  refine k_ctor (as := [.int 24]) (rest := [.ref q1, .ref o]) (wr := [(o, .inr (5, [.null, .int 0]))]) (ci_X1 q1 (L := 24) (i := 24) (by decide) (by decide +kernel) (by decide)) [1] [0] X lkc_X1 rfl rfl wq_185 wq_118 wq_87 rfl rfl (by decide) (by decide) (by decide) rfl (Nat.le_of_ble_eq_true rfl) ⟨Nat.le_of_ble_eq_true rfl, Nat.le_of_ble_eq_true rfl⟩ ⟨Nat.le_of_ble_eq_true rfl, Nat.le_of_ble_eq_true rfl⟩ hl.1 (by decide +kernel) hW (fun u H locs hW => ?_)
  have hW : cx_Wd D A s.heap [(o, .inr (5, [.null, .int 0])), (q1, .inr (1, [.ref ((u.getD 0 0)), .int 0])), ((u.getD 0 0), .inl (tc 0, 24, .inl (fun _ => 0)))] H _ := hW
  generalize u.getD 0 0 = a2 at hW
  refine k_putF (ci := 5) (k := 0) (ty := .object "FromTheMiddle$Numbers") (v := .ref q1) (q0 := 0) X hin rfl rfl inw_5 tyX5_ok nmX5 (by decide) rfl rfl (by decide +kernel) rfl rfl (Nat.le_of_ble_eq_true rfl) wq_186 (by decide +kernel) hW (fun H locs hW => ?_)
  have hW : cx_Wd D A s.heap [(o, .inr (5, [.ref q1, .int 0])), (q1, .inr (1, [.ref a2, .int 0])), (a2, .inl (tc 0, 24, .inl (fun _ => 0)))] H _ := hW
  have hW := cx_sub (ws' := [(o, .inr (5, [.ref q1, .int 0])), (q1, .inr (1, [.ref a2, .int 0])), (a2, .inl (tc 0, 24, .inl (fun _ => 0)))]) [0, 1, 2] (by decide) rfl hW
  refine W.widen (k := 2) (n := 26) (by omega) (by omega) ?_
  exact fin [q1, a2] _ _ _ _ hW (by decide +kernel)
set_option maxRecDepth 100000 in
set_option maxHeartbeats 4000000 in
theorem ci_X4 {l : Launch} {D : va_G} {tc : Nat → ClassId} {ad : Nat → Nat} (o : Nat) : px_CM l D tc ad 2 0 0 pmc_X4 [.ref o] [(o, .inr (4, [.int 0, .int 0, .int 0, .int 0, .int 0, .int 0, .int 0, .int 0, .int 0]))] (fun u => [(o, .inr (4, [.int 0, .int 0, .int 0, .int 0, .int 0, .int 0, .int 0, .int 0, .int 0]))]) := by
  refine cx_of (by decide +kernel) rfl rfl (Nat.le_of_ble_eq_true rfl) (by decide) ?_
  intro p e s m below meth c ls A Q X hin hW hl fin
  have hl : lv_has ls 1 [(0, .ref o)] := hl
  refine lv_aload_n X.1 X.2.1 (i := 0) (k := 0) (by decide +kernel) rfl (lv_at hl 0 rfl) ?_
  refine k_obj X wq_200 wq_107 wq_108 hl.1 (Nat.le_of_ble_eq_true rfl) (by decide +kernel) ?_
  have hW := cx_sub (ws' := [(o, .inr (4, [.int 0, .int 0, .int 0, .int 0, .int 0, .int 0, .int 0, .int 0, .int 0]))]) [0] (by decide) rfl hW
  refine W.widen (k := 0) (n := 0) (by omega) (by omega) ?_
  exact fin [] _ _ _ _ hW (by decide +kernel)
set_option maxRecDepth 100000 in
set_option maxHeartbeats 4000000 in
theorem ci_X2 {l : Launch} {D : va_G} {tc : Nat → ClassId} {ad : Nat → Nat} (o : Nat) : px_CM l D tc ad 4 4 124 pmc_X2 [.ref o] [(o, .inr (2, [.null, .null, .int 0, .int 0, .int 0]))] (fun u => [(o, .inr (2, [.ref (u.getD 0 0), .ref (u.getD 2 0), .int 0, .int 0, .int 0])), ((u.getD 0 0), .inr (1, [.ref ((u.getD 1 0)), .int 0])), ((u.getD 1 0), .inl (tc 0, 60, .inl (fun _ => 0))), ((u.getD 2 0), .inr (1, [.ref ((u.getD 3 0)), .int 0])), ((u.getD 3 0), .inl (tc 0, 60, .inl (fun _ => 0)))]) := by
  refine cx_of (by decide +kernel) rfl rfl (Nat.le_of_ble_eq_true rfl) (by decide) ?_
  intro p e s m below meth c ls A Q X hin hW hl fin
  have hl : lv_has ls 1 [(0, .ref o)] := hl
  refine lv_aload_n X.1 X.2.1 (i := 0) (k := 0) (by decide +kernel) rfl (lv_at hl 0 rfl) ?_
  refine k_obj X wq_239 wq_107 wq_108 hl.1 (Nat.le_of_ble_eq_true rfl) (by decide +kernel) ?_
  refine lv_aload_n X.1 X.2.1 (i := 0) (k := 0) (by decide +kernel) rfl (lv_at hl 0 rfl) ?_
  refine k_new (ci := 1) (fs := [.null, .int 0]) tyX1 X rfl inw_1 tyX1_ok wq_240 wq_116 wq_87 (fun j hj => by rcases (show j = 0 ∨ j = 1 by omega) with rfl | rfl <;> rfl) (Nat.le_of_ble_eq_true rfl) (Nat.le_of_ble_eq_true rfl) (by decide +kernel) hW (fun q1 H hW => ?_)
  have hW : cx_Wd D A s.heap [(o, .inr (2, [.null, .null, .int 0, .int 0, .int 0])), (q1, .inr (1, [.null, .int 0]))] H _ := hW
  refine lv_dup X.1 X.2.1 (by decide +kernel) rfl ?_
  refine lv_bipush (n := 60) (v := 60) X.1 X.2.1 (by decide +kernel) (by decide +kernel) ?_
  refine k_ctor (as := [.int 60]) (rest := [.ref q1, .ref o]) (wr := [(o, .inr (2, [.null, .null, .int 0, .int 0, .int 0]))]) (ci_X1 q1 (L := 60) (i := 60) (by decide) (by decide +kernel) (by decide)) [1] [0] X lkc_X1 rfl rfl wq_241 wq_118 wq_87 rfl rfl (by decide) (by decide) (by decide) rfl (Nat.le_of_ble_eq_true rfl) ⟨Nat.le_of_ble_eq_true rfl, Nat.le_of_ble_eq_true rfl⟩ ⟨Nat.le_of_ble_eq_true rfl, Nat.le_of_ble_eq_true rfl⟩ hl.1 (by decide +kernel) hW (fun u H locs hW => ?_)
  have hW : cx_Wd D A s.heap [(o, .inr (2, [.null, .null, .int 0, .int 0, .int 0])), (q1, .inr (1, [.ref ((u.getD 0 0)), .int 0])), ((u.getD 0 0), .inl (tc 0, 60, .inl (fun _ => 0)))] H _ := hW
  generalize u.getD 0 0 = a2 at hW
  refine k_putF (ci := 2) (k := 0) (ty := .object "FromTheMiddle$Numbers") (v := .ref q1) (q0 := 0) X hin rfl rfl inw_2 tyX2_ok nmX2 (by decide) rfl rfl (by decide +kernel) rfl rfl (Nat.le_of_ble_eq_true rfl) wq_242 (by decide +kernel) hW (fun H locs hW => ?_)
  have hW : cx_Wd D A s.heap [(o, .inr (2, [.ref q1, .null, .int 0, .int 0, .int 0])), (q1, .inr (1, [.ref a2, .int 0])), (a2, .inl (tc 0, 60, .inl (fun _ => 0)))] H _ := hW
  refine lv_aload_n X.1 X.2.1 (i := 0) (k := 0) (by decide +kernel) rfl (lv_at hl 0 rfl) ?_
  refine k_new (ci := 1) (fs := [.null, .int 0]) tyX1 X rfl inw_1 tyX1_ok wq_240 wq_116 wq_87 (fun j hj => by rcases (show j = 0 ∨ j = 1 by omega) with rfl | rfl <;> rfl) (Nat.le_of_ble_eq_true rfl) (Nat.le_of_ble_eq_true rfl) (by decide +kernel) hW (fun q3 H hW => ?_)
  have hW : cx_Wd D A s.heap [(o, .inr (2, [.ref q1, .null, .int 0, .int 0, .int 0])), (q1, .inr (1, [.ref a2, .int 0])), (a2, .inl (tc 0, 60, .inl (fun _ => 0))), (q3, .inr (1, [.null, .int 0]))] H _ := hW
  refine lv_dup X.1 X.2.1 (by decide +kernel) rfl ?_
  refine lv_bipush (n := 60) (v := 60) X.1 X.2.1 (by decide +kernel) (by decide +kernel) ?_
  refine k_ctor (as := [.int 60]) (rest := [.ref q3, .ref o]) (wr := [(o, .inr (2, [.ref q1, .null, .int 0, .int 0, .int 0])), (q1, .inr (1, [.ref a2, .int 0])), (a2, .inl (tc 0, 60, .inl (fun _ => 0)))]) (ci_X1 q3 (L := 60) (i := 60) (by decide) (by decide +kernel) (by decide)) [3] [0, 1, 2] X lkc_X1 rfl rfl wq_241 wq_118 wq_87 rfl rfl (by decide) (by decide) (by decide) rfl (Nat.le_of_ble_eq_true rfl) ⟨Nat.le_of_ble_eq_true rfl, Nat.le_of_ble_eq_true rfl⟩ ⟨Nat.le_of_ble_eq_true rfl, Nat.le_of_ble_eq_true rfl⟩ hl.1 (by decide +kernel) hW (fun u H locs hW => ?_)
  have hW : cx_Wd D A s.heap [(o, .inr (2, [.ref q1, .null, .int 0, .int 0, .int 0])), (q1, .inr (1, [.ref a2, .int 0])), (a2, .inl (tc 0, 60, .inl (fun _ => 0))), (q3, .inr (1, [.ref ((u.getD 0 0)), .int 0])), ((u.getD 0 0), .inl (tc 0, 60, .inl (fun _ => 0)))] H _ := hW
  generalize u.getD 0 0 = a4 at hW
  refine k_putF (ci := 2) (k := 1) (ty := .object "FromTheMiddle$Numbers") (v := .ref q3) (q0 := 0) X hin rfl rfl inw_2 tyX2_ok nmX2 (by decide) rfl rfl (by decide +kernel) rfl rfl (Nat.le_of_ble_eq_true rfl) wq_244 (by decide +kernel) hW (fun H locs hW => ?_)
  have hW : cx_Wd D A s.heap [(o, .inr (2, [.ref q1, .ref q3, .int 0, .int 0, .int 0])), (q1, .inr (1, [.ref a2, .int 0])), (a2, .inl (tc 0, 60, .inl (fun _ => 0))), (q3, .inr (1, [.ref a4, .int 0])), (a4, .inl (tc 0, 60, .inl (fun _ => 0)))] H _ := hW
  have hW := cx_sub (ws' := [(o, .inr (2, [.ref q1, .ref q3, .int 0, .int 0, .int 0])), (q1, .inr (1, [.ref a2, .int 0])), (a2, .inl (tc 0, 60, .inl (fun _ => 0))), (q3, .inr (1, [.ref a4, .int 0])), (a4, .inl (tc 0, 60, .inl (fun _ => 0)))]) [0, 1, 2, 3, 4] (by decide) rfl hW
  refine W.widen (k := 4) (n := 124) (by omega) (by omega) ?_
  exact fin [q1, a2, q3, a4] _ _ _ _ hW (by decide +kernel)
set_option maxRecDepth 100000 in
set_option maxHeartbeats 4000000 in
theorem ci_X3 {l : Launch} {D : va_G} {tc : Nat → ClassId} {ad : Nat → Nat} (o : Nat) : px_CM l D tc ad 4 2 62 pmc_X3 [.ref o] [(o, .inr (3, [.null]))] (fun u => [(o, .inr (3, [.ref (u.getD 0 0)])), ((u.getD 0 0), .inr (1, [.ref ((u.getD 1 0)), .int 0])), ((u.getD 1 0), .inl (tc 0, 60, .inl (fun _ => 0)))]) := by
  refine cx_of (by decide +kernel) rfl rfl (Nat.le_of_ble_eq_true rfl) (by decide) ?_
  intro p e s m below meth c ls A Q X hin hW hl fin
  have hl : lv_has ls 1 [(0, .ref o)] := hl
  refine lv_aload_n X.1 X.2.1 (i := 0) (k := 0) (by decide +kernel) rfl (lv_at hl 0 rfl) ?_
  refine k_obj X wq_264 wq_107 wq_108 hl.1 (Nat.le_of_ble_eq_true rfl) (by decide +kernel) ?_
  refine lv_aload_n X.1 X.2.1 (i := 0) (k := 0) (by decide +kernel) rfl (lv_at hl 0 rfl) ?_
  refine k_new (ci := 1) (fs := [.null, .int 0]) tyX1 X rfl inw_1 tyX1_ok wq_265 wq_116 wq_87 (fun j hj => by rcases (show j = 0 ∨ j = 1 by omega) with rfl | rfl <;> rfl) (Nat.le_of_ble_eq_true rfl) (Nat.le_of_ble_eq_true rfl) (by decide +kernel) hW (fun q1 H hW => ?_)
  have hW : cx_Wd D A s.heap [(o, .inr (3, [.null])), (q1, .inr (1, [.null, .int 0]))] H _ := hW
  refine lv_dup X.1 X.2.1 (by decide +kernel) rfl ?_
  refine lv_bipush (n := 60) (v := 60) X.1 X.2.1 (by decide +kernel) (by decide +kernel) ?_
  refine k_ctor (as := [.int 60]) (rest := [.ref q1, .ref o]) (wr := [(o, .inr (3, [.null]))]) (ci_X1 q1 (L := 60) (i := 60) (by decide) (by decide +kernel) (by decide)) [1] [0] X lkc_X1 rfl rfl wq_266 wq_118 wq_87 rfl rfl (by decide) (by decide) (by decide) rfl (Nat.le_of_ble_eq_true rfl) ⟨Nat.le_of_ble_eq_true rfl, Nat.le_of_ble_eq_true rfl⟩ ⟨Nat.le_of_ble_eq_true rfl, Nat.le_of_ble_eq_true rfl⟩ hl.1 (by decide +kernel) hW (fun u H locs hW => ?_)
  have hW : cx_Wd D A s.heap [(o, .inr (3, [.null])), (q1, .inr (1, [.ref ((u.getD 0 0)), .int 0])), ((u.getD 0 0), .inl (tc 0, 60, .inl (fun _ => 0)))] H _ := hW
  generalize u.getD 0 0 = a2 at hW
  refine k_putF (ci := 3) (k := 0) (ty := .object "FromTheMiddle$Numbers") (v := .ref q1) (q0 := 0) X hin rfl rfl inw_3 tyX3_ok nmX3 (by decide) rfl rfl (by decide +kernel) rfl rfl (Nat.le_of_ble_eq_true rfl) wq_267 (by decide +kernel) hW (fun H locs hW => ?_)
  have hW : cx_Wd D A s.heap [(o, .inr (3, [.ref q1])), (q1, .inr (1, [.ref a2, .int 0])), (a2, .inl (tc 0, 60, .inl (fun _ => 0)))] H _ := hW
  have hW := cx_sub (ws' := [(o, .inr (3, [.ref q1])), (q1, .inr (1, [.ref a2, .int 0])), (a2, .inl (tc 0, 60, .inl (fun _ => 0)))]) [0, 1, 2] (by decide) rfl hW
  refine W.widen (k := 2) (n := 62) (by omega) (by omega) ?_
  exact fin [q1, a2] _ _ _ _ hW (by decide +kernel)
set_option maxRecDepth 100000 in
set_option maxHeartbeats 4000000 in
theorem ci_X6 {l : Launch} {D : va_G} {tc : Nat → ClassId} {ad : Nat → Nat} (o : Nat) : px_CM l D tc ad 4 2 32 pmc_X6 [.ref o] [(o, .inr (6, [.null, .int 0, .int 0, .int 0]))] (fun u => [(o, .inr (6, [.ref (u.getD 0 0), .int 0, .int 0, .int 0])), ((u.getD 0 0), .inr (1, [.ref ((u.getD 1 0)), .int 0])), ((u.getD 1 0), .inl (tc 0, 30, .inl (fun _ => 0)))]) := by
  refine cx_of (by decide +kernel) rfl rfl (Nat.le_of_ble_eq_true rfl) (by decide) ?_
  intro p e s m below meth c ls A Q X hin hW hl fin
  have hl : lv_has ls 1 [(0, .ref o)] := hl
  refine lv_aload_n X.1 X.2.1 (i := 0) (k := 0) (by decide +kernel) rfl (lv_at hl 0 rfl) ?_
  refine k_obj X wq_276 wq_107 wq_108 hl.1 (Nat.le_of_ble_eq_true rfl) (by decide +kernel) ?_
  refine lv_aload_n X.1 X.2.1 (i := 0) (k := 0) (by decide +kernel) rfl (lv_at hl 0 rfl) ?_
  refine k_new (ci := 1) (fs := [.null, .int 0]) tyX1 X rfl inw_1 tyX1_ok wq_277 wq_116 wq_87 (fun j hj => by rcases (show j = 0 ∨ j = 1 by omega) with rfl | rfl <;> rfl) (Nat.le_of_ble_eq_true rfl) (Nat.le_of_ble_eq_true rfl) (by decide +kernel) hW (fun q1 H hW => ?_)
  have hW : cx_Wd D A s.heap [(o, .inr (6, [.null, .int 0, .int 0, .int 0])), (q1, .inr (1, [.null, .int 0]))] H _ := hW
  refine lv_dup X.1 X.2.1 (by decide +kernel) rfl ?_
  refine lv_bipush (n := 30) (v := 30) X.1 X.2.1 (by decide +kernel) (by decide +kernel) ?_
  refine k_ctor (as := [.int 30]) (rest := [.ref q1, .ref o]) (wr := [(o, .inr (6, [.null, .int 0, .int 0, .int 0]))]) (ci_X1 q1 (L := 30) (i := 30) (by decide) (by decide +kernel) (by decide)) [1] [0] X lkc_X1 rfl rfl wq_278 wq_118 wq_87 rfl rfl (by decide) (by decide) (by decide) rfl (Nat.le_of_ble_eq_true rfl) ⟨Nat.le_of_ble_eq_true rfl, Nat.le_of_ble_eq_true rfl⟩ ⟨Nat.le_of_ble_eq_true rfl, Nat.le_of_ble_eq_true rfl⟩ hl.1 (by decide +kernel) hW (fun u H locs hW => ?_)
  have hW : cx_Wd D A s.heap [(o, .inr (6, [.null, .int 0, .int 0, .int 0])), (q1, .inr (1, [.ref ((u.getD 0 0)), .int 0])), ((u.getD 0 0), .inl (tc 0, 30, .inl (fun _ => 0)))] H _ := hW
  generalize u.getD 0 0 = a2 at hW
  refine k_putF (ci := 6) (k := 0) (ty := .object "FromTheMiddle$Numbers") (v := .ref q1) (q0 := 0) X hin rfl rfl inw_6 tyX6_ok nmX6 (by decide) rfl rfl (by decide +kernel) rfl rfl (Nat.le_of_ble_eq_true rfl) wq_279 (by decide +kernel) hW (fun H locs hW => ?_)
  have hW : cx_Wd D A s.heap [(o, .inr (6, [.ref q1, .int 0, .int 0, .int 0])), (q1, .inr (1, [.ref a2, .int 0])), (a2, .inl (tc 0, 30, .inl (fun _ => 0)))] H _ := hW
  have hW := cx_sub (ws' := [(o, .inr (6, [.ref q1, .int 0, .int 0, .int 0])), (q1, .inr (1, [.ref a2, .int 0])), (a2, .inl (tc 0, 30, .inl (fun _ => 0)))]) [0, 1, 2] (by decide) rfl hW
  refine W.widen (k := 2) (n := 32) (by omega) (by omega) ?_
  exact fin [q1, a2] _ _ _ _ hW (by decide +kernel)
end
