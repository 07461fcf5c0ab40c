/-! String.indexOf of the two texts of names (66.t1: by hand) -/
theorem px_PW.callK {d d1 : Nat} {code : Nat → Option px_A} (hT : px_frT code) {Q Q1 : Option Value → px_H → Prop} {pc j m b : Nat} {as rest : List Value} {lv : px_L} {st : List Value} {h : px_H} (hc : code pc = some (px_callK j m)) (hp : px_pop (m + 1) st [] = some (.ref b :: as, rest)) (hO : px_isK b = true) (h8 : Nat.ble (px_cat rest) 8 = true) (hM : px_PM d1 j (.ref b :: as) h Q1) (hd : d1 ≤ d)
    (k : ∀ v h1, Q1 v h1 → px_PW d code Q (pc + 3) lv (px_tl v rest) h1) : px_PW d code Q pc lv st h := by
  obtain ⟨n1, v1, h1, e1, q1⟩ := hM
  obtain ⟨n, v, h2, e2, q2⟩ := k v1 h1 q1
  refine ⟨max n1 n + 1, v, h2, ?_, q2⟩
  unfold px_loop
  rw [hc]
  dsimp only
  have e3 : px_callK j m (px_run px_codes d (max n1 n + 1)) pc lv st h = some (.inl (pc + 3, lv, px_tl v1 rest, h1)) := by
    unfold px_callK
    rw [hp]
    dsimp only
    rw [hO, h8, px_mono hd (show n1 ≤ max n1 n + 1 by omega) e1]
    rfl
  rw [e3]
  exact (px_fr_loop (b := none) (X := []) hT (px_codes_fr none [] (Nat.le_refl d) (show n ≤ max n1 n + 1 by omega)) n (max n1 n) (pc + 3) lv (px_tl v1 rest) h1 v h2 (by omega) trivial e2).1
/-- a run over no heap at all -/
def px_ansE (d n j : Nat) (as : List Value) : Option Int32 := match px_run px_codes d n j as ([], []) with
  | some (some (.int x), ([], [])) => some x
  | _ => none
theorem px_PM.of_ansE {d n j : Nat} {as : List Value} {x : Int32} (hr : px_ansE d n j as = some x) (h : px_H) : px_PM d j as h (fun r h' => r = some (.int x) ∧ h' = h) := by
  unfold px_ansE at hr
  split at hr
  · next x' hx =>
    cases hr
    have h1 := (px_codes_fr (some true) h.2 (Nat.le_refl d) (Nat.le_refl n) j as ([], []) _ _ rfl hx).1
    have h2 := (px_codes_fr (some false) h.1 (Nat.le_refl d) (Nat.le_refl n) j as ([], h.2) _ _ rfl h1).1
    exact ⟨n, _, h, h2, rfl, rfl⟩
  · cases hr
/-- where a name stands among the three -/
def t_ix (u : Nat) (c : Int32) : Int32 := if u = 0 then (if c = 99 then 0 else if c = 116 then 1 else if c = 119 then 2 else -1) else (if c = 104 then 0 else if c = 110 then 1 else if c = 107 then 2 else -1)
set_option maxRecDepth 100000 in
theorem jk_low0 : ∀ n : Nat, n < 256 → px_ansE 5 40 207 [.ref 3002, .int (nI n)] = some (t_ix 0 (nI n)) := by decide +kernel
set_option maxRecDepth 100000 in
theorem jk_low1 : ∀ n : Nat, n < 256 → px_ansE 5 40 207 [.ref 3003, .int (nI n)] = some (t_ix 1 (nI n)) := by decide +kernel
theorem jk_lat0 : px_ansE 1 20 209 [.ref 3002] = some 1 := by decide +kernel
theorem jk_lat1 : px_ansE 1 20 209 [.ref 3003] = some 1 := by decide +kernel
theorem jk_len0 : px_ansE 2 20 210 [.ref 3002] = some 3 := by decide +kernel
theorem jk_len1 : px_ansE 2 20 210 [.ref 3003] = some 3 := by decide +kernel
theorem jk_enc {n : Nat} (k1 : 256 ≤ n) (k2 : n < 65536) (h : px_H) : px_PM 1 213 [.int (nI n)] h (fun r h' => r = some (.int 0) ∧ h' = h) := by
  refine px_PM.start (nL := 1) (code := pc_213) rfl rfl ?_
  refine px_PW.steps kt_213.2 2 rfl ?_
  refine px_PW.br (fun c => absurd (of_decide_eq_true c) (nI_pos (by omega))) (fun _ => ?_)
  refine px_PW.steps kt_213.2 3 rfl ?_
  refine px_PW.br (fun _ => ?_) (fun c => absurd (show nI 255 < nI n from nI_lt (by omega) (by omega)) (of_decide_eq_false c))
  refine px_PW.steps kt_213.2 1 rfl ?_
  exact px_PW.ret kt_213.2 rfl rfl ⟨rfl, rfl⟩
theorem jk_lt {n a : Nat} (k1 : 256 ≤ n) (k2 : n < 65536) (h : px_H) : px_PM 2 212 [.ref a, .int (nI n), .int 0, .int 3] h (fun r h' => r = some (.int (-1)) ∧ h' = h) := by
  refine px_PM.start (nL := 4) (code := pc_212) rfl rfl ?_
  refine px_PW.steps kt_212.2 1 rfl ?_
  refine px_PW.callS kt_212.2 rfl rfl rfl (jk_enc k1 k2 h) (by decide) (fun v h1 q => ?_)
  obtain ⟨rfl, rfl⟩ := q
  refine px_PW.steps kt_212.2 2 rfl ?_
  exact px_PW.ret kt_212.2 rfl rfl ⟨rfl, rfl⟩
theorem jk_ix2 {n a : Nat} (ha : px_isK a = true) (hl : px_ansE 1 20 209 [.ref a] = some 1) (hn : px_ansE 2 20 210 [.ref a] = some 3) (k1 : 256 ≤ n) (k2 : n < 65536) (h : px_H) : px_PM 3 208 [.ref a, .int (nI n), .int 0] h (fun r h' => r = some (.int (-1)) ∧ h' = h) := by
  refine px_PM.start (nL := 3) (code := pc_208) rfl rfl ?_
  refine px_PW.steps kt_208.2 1 rfl ?_
  refine px_PW.callK kt_208.2 rfl rfl ha rfl (px_PM.of_ansE hl h) (by decide) (fun v h1 q => ?_)
  obtain ⟨rfl, rfl⟩ := q
  refine px_PW.steps kt_208.2 2 rfl ?_
  refine px_PW.one (pc' := 11) (lv' := px_args 3 [Value.ref a, Value.int (nI n), Value.int 0]) (st' := [.ref (a + 10)]) (h' := _) (act := px_strv) rfl (fun _ => by unfold px_strv; dsimp only; rw [ha]; rfl) ?_ kt_208.2
  refine px_PW.steps kt_208.2 3 rfl ?_
  refine px_PW.callK kt_208.2 rfl rfl ha rfl (px_PM.of_ansE hn _) (by decide) (fun v h1 q => ?_)
  obtain ⟨rfl, rfl⟩ := q
  refine px_PW.callS kt_208.2 rfl rfl rfl (jk_lt k1 k2 _) (by decide) (fun v h1 q => ?_)
  obtain ⟨rfl, rfl⟩ := q
  refine px_PW.steps kt_208.2 1 rfl ?_
  exact px_PW.ret kt_208.2 rfl rfl ⟨rfl, rfl⟩
theorem jk_ix1 {n a : Nat} (ha : px_isK a = true) (hl : px_ansE 1 20 209 [.ref a] = some 1) (hn : px_ansE 2 20 210 [.ref a] = some 3) (k1 : 256 ≤ n) (k2 : n < 65536) (h : px_H) : px_PM 4 207 [.ref a, .int (nI n)] h (fun r h' => r = some (.int (-1)) ∧ h' = h) := by
  refine px_PM.start (nL := 2) (code := pc_207) rfl rfl ?_
  refine px_PW.steps kt_207.2 3 rfl ?_
  refine px_PW.callK kt_207.2 rfl rfl ha rfl (jk_ix2 ha hl hn k1 k2 h) (by decide) (fun v h1 q => ?_)
  obtain ⟨rfl, rfl⟩ := q
  exact px_PW.ret kt_207.2 rfl rfl ⟨rfl, rfl⟩
/-- the text of names of a USE -/
def t_nm (u : Nat) : Nat := if u = 0 then 3002 else 3003
theorem jk_index {u n : Nat} (hu : u ≤ 1) (hn : n < 65536) (h : px_H) : px_PM 5 207 [.ref (t_nm u), .int (nI n)] h (fun r h' => r = some (.int (t_ix u (nI n))) ∧ h' = h) := by
  have far : 256 ≤ n → t_ix u (nI n) = -1 := by
    intro h1
    have ne : ∀ k : Nat, k < 256 → ¬ (nI n = nI k) := fun k hk q => by
      have := (nI_eq (a := n) (b := k) (by omega) (by omega)).mp q
      omega
    unfold t_ix
    rw [if_neg (show ¬ (nI n = (99 : Int32)) from ne 99 (by omega)), if_neg (show ¬ (nI n = (116 : Int32)) from ne 116 (by omega)), if_neg (show ¬ (nI n = (119 : Int32)) from ne 119 (by omega)), if_neg (show ¬ (nI n = (104 : Int32)) from ne 104 (by omega)), if_neg (show ¬ (nI n = (110 : Int32)) from ne 110 (by omega)), if_neg (show ¬ (nI n = (107 : Int32)) from ne 107 (by omega)), ite_self]
  rcases (show u = 0 ∨ u = 1 by omega) with rfl | rfl
  · rcases Nat.lt_or_ge n 256 with c | c
    · exact px_PM.of_ansE (jk_low0 n c) h
    · rw [far c]
      exact (jk_ix1 rfl jk_lat0 jk_len0 c hn h).mono (by decide) (fun _ _ q => q)
  · rcases Nat.lt_or_ge n 256 with c | c
    · exact px_PM.of_ansE (jk_low1 n c) h
    · rw [far c]
      exact (jk_ix1 rfl jk_lat1 jk_len1 c hn h).mono (by decide) (fun _ _ q => q)
theorem jk_i2c (s : Int32) : ∃ n : Nat, n < 65536 ∧ (s.toUInt32 % 65536).toInt32 = nI n := by
  refine ⟨(s.toUInt32 % 65536).toNat, by rw [UInt32.toNat_mod]; exact Nat.mod_lt _ (by decide), ?_⟩
  unfold nI
  apply Int32.toBitVec_inj.mp
  apply BitVec.eq_of_toNat_eq
  simp
  show s.toBitVec.toNat % 65536 = s.toBitVec.toNat % 65536 % 4294967296
  omega
