def s_mbyte (word : Int64) (k : Nat) : Int32 := ((word >>> ((8 * nI k).toInt64 &&& 63)) &&& 255).toInt32
def zz_fd (word : Int64) (f : Nat → Int32) (P k : Nat) : Nat → Int32 := upd (zz_pl (s_mbyte word) f (286 + P) k) 8 (nI (P + k))
theorem zz_fd_0 {word : Int64} {f : Nat → Int32} {P : Nat} (hP : f 8 = nI P) : zz_fd word f P 0 = f := by
  unfold zz_fd
  rw [zz_pl_0, Nat.add_zero, ← hP, zz_ui]
theorem zz_fd_s {word : Int64} {f : Nat → Int32} {P k : Nat} : upd (upd (zz_fd word f P k) (286 + (P + k)) (s_mbyte word k)) 8 (nI (P + k) + 1) = zz_fd word f P (k + 1) := by
  unfold zz_fd
  rw [← zz_pl_s, ← Nat.add_assoc 286 P k, show nI (P + k) + 1 = nI (P + (k + 1)) from (nI_succ (P + k)).symm]
  funext j
  unfold upd
  by_cases h : j = 8
  · rw [if_pos h, if_pos h]
  · rw [if_neg h, if_neg h, if_neg h]
theorem px_in8m {n : Int32} {P : Nat} (hP60 : P ≤ 60) (a : 1 ≤ n ∧ n ≤ 8) (c : nI P + n ≤ 60) : n = nI n.toNatClampNeg ∧ n.toNatClampNeg ≤ 8 ∧ P + n.toNatClampNeg ≤ 60 := by
  have h0 : ¬ n < 0 := fun q => Int32.not_lt.mpr a.1 (Int32.lt_trans q (by decide))
  obtain ⟨k, hk, rfl⟩ := nI_of h0
  have b := a.2
  rw [show (8 : Int32) = nI 8 from rfl, nI_leI (by omega) (by omega)] at b
  rw [nI_add, show (60 : Int32) = nI 60 from rfl, nI_leI (by omega) (by omega)] at c
  rw [nI_clamp (by omega)]
  exact ⟨rfl, b, c⟩
theorem m_feed_loop {Z f : Nat → Int32} {F : Nat → Nat → Int32} {P K : Nat} (hK : P + K ≤ 60) (hK8 : K ≤ 8) (word : Int64) {Q : Option Value → px_H → Prop} : ∀ (m k : Nat), k + m = K → px_PW 1 pc_125 Q 90 [some (.ref 1000), some (.long word), none, some (.int (nI K)), some (.int (nI K))] [] ([], px_MH Z (va_up F 0 (zz_fd word f P K))) → px_PW 1 pc_125 Q 39 [some (.ref 1000), some (.long word), none, some (.int (nI K)), some (.int (nI k))] [] ([], px_MH Z (va_up F 0 (zz_fd word f P k)))
  | m, k, hk, H => by
    refine px_PW.steps kt_125.2 3 rfl ?_
    refine px_PW.br (fun c0 => ?_) (fun c0 => ?_)
    · have c0 : (nI K) ≤ (nI k) := of_decide_eq_true c0
      have c0 : K ≤ k := (nI_leI (a := K) (b := k) (by omega) (by omega)).mp c0
      obtain rfl : m = 0 := by omega
      obtain rfl : k = K := by omega
      exact H
    · have c0 : ¬ ((nI K) ≤ (nI k)) := of_decide_eq_false c0
      have c0 : ¬ (K ≤ k) := fun q => c0 ((nI_leI (a := K) (b := k) (by omega) (by omega)).mpr q)
      obtain ⟨m2, rfl⟩ : ∃ m2, m = m2 + 1 := ⟨m - 1, by omega⟩
      refine px_PW.steps kt_125.2 6 rfl ?_
      refine px_PW.steps kt_125.2 1 rfl ?_
      refine px_PW.steps kt_125.2 9 rfl ?_
      refine mc_0 kt_125.2 rfl (n := 286 + (P + k)) (show 286 + zz_fd word f P k 8 = nI (286 + (P + k)) from by rw [show zz_fd word f P k 8 = nI (P + k) from rfl]; exact nI_add 286 (P + k)) (by omega) ?_
      refine px_PW.steps kt_125.2 4 rfl ?_
      refine px_PW.aldN kt_125.2 rfl rfl (n := 8) rfl (by decide) ?_
      rw [px_up_self, px_upd_ne _ _ (show 8 ≠ 286 + (P + k) by omega)]
      refine px_PW.steps kt_125.2 2 rfl ?_
      refine mc_0 kt_125.2 rfl (n := 8) rfl (by decide) ?_
      refine px_PW.steps kt_125.2 2 rfl ?_
      have g := m_feed_loop hK hK8 word (Z := Z) (f := f) (F := F) (Q := Q) m2 (k + 1) (by omega) H
      rw [← zz_fd_s, nI_succ k] at g
      exact g
def s_mfeed (P : Nat) (Z : Nat → Int32) (F : Nat → Nat → Int32) (word : Int64) (n : Int32) : Int32 × (Nat → Int32) × (Nat → Nat → Int32) := (if 1 ≤ n ∧ n ≤ 8 then (if (((F 0) 8) + n) ≤ 60 then (((zz_fd word (F 0) P n.toNatClampNeg) 8), Z, (va_up F 0 (zz_fd word (F 0) P n.toNatClampNeg))) else ((-1000000000 - 4), Z, F)) else ((-1000000000 - 1), Z, F))
theorem kc_mfeed {Z : Nat → Int32} {F : Nat → Nat → Int32} {P : Nat} (hP : F 0 8 = nI P) (hP60 : P ≤ 60) (word : Int64) (n : Int32) : px_PM 2 125 [.ref 1000, .long word, .int n] ([], px_MH Z F) (fun r h' => r = some (.int (s_mfeed P Z F word n).1) ∧ ∃ Z' F', px_sm (s_mfeed P Z F word n).2.1 (s_mfeed P Z F word n).2.2 Z' F' ∧ h' = ([], px_MH Z' F')) := by
  refine px_PM.start (nL := 5) (code := pc_125) rfl rfl ?_
  refine px_PW.steps kt_125.2 3 rfl ?_
  refine px_PW.callS kt_125.2 rfl rfl rfl (cm_117 _ _ _ _) (by decide) (fun v h1 q => ?_)
  obtain ⟨rfl, rfl⟩ := q
  refine px_PW.steps kt_125.2 1 rfl ?_
  refine px_PW.br (fun c0 => ?_) (fun c0 => ?_)
  · have c0 : 1 ≤ n ∧ n ≤ 8 := px_b1n (of_decide_eq_false (px_nt c0))
    refine px_PW.steps kt_125.2 3 rfl ?_
    refine px_PW.steps kt_125.2 1 rfl ?_
    refine px_PW.steps kt_125.2 4 rfl ?_
    refine px_PW.br (fun c1 => ?_) (fun c1 => ?_)
    · have c1 : (((F 0) 8) + n) ≤ 60 := of_decide_eq_true c1
      refine px_PW.steps kt_125.2 2 rfl ?_
      have hn := px_in8m hP60 c0 (by rw [← hP]; exact c1)
      refine px_PW.lc (lv' := [some (.ref 1000), some (.long word), none, some (.int (nI n.toNatClampNeg)), some (.int (nI 0))]) (by rw [← hn.1]; rfl) ?_
      refine px_PW.hp (h' := ([], px_MH Z (va_up F 0 (zz_fd word (F 0) P 0)))) (by rw [zz_fd_0 hP, px_up_id]) ?_
      refine m_feed_loop hn.2.2 hn.2.1 word n.toNatClampNeg 0 (by omega) ?_
      refine px_PW.steps kt_125.2 3 rfl ?_
      refine px_PW.steps kt_125.2 1 rfl ?_
      refine px_PW.ret kt_125.2 rfl rfl ?_
      have E : s_mfeed P Z F word n = (((zz_fd word (F 0) P n.toNatClampNeg) 8), Z, (va_up F 0 (zz_fd word (F 0) P n.toNatClampNeg))) := (if_pos c0).trans (if_pos c1)
      rw [E]
      exact ⟨rfl, _, _, px_sm.rf, rfl⟩
    · have c1 : ¬ ((((F 0) 8) + n) ≤ 60) := of_decide_eq_false c1
      refine px_PW.steps kt_125.2 2 rfl ?_
      refine px_PW.callV kt_125.2 rfl rfl rfl rfl (mm_error 4 (by decide)) (by decide) (fun v h1 q => ?_)
      obtain ⟨rfl, rfl⟩ := q
      refine px_PW.ret kt_125.2 rfl rfl ?_
      have E : s_mfeed P Z F word n = ((-1000000000 - 4), Z, F) := (if_pos c0).trans (if_neg c1)
      rw [E]
      exact ⟨rfl, _, _, px_sm.err, rfl⟩
  · have c0 : ¬ (1 ≤ n ∧ n ≤ 8) := px_b1z (of_decide_eq_true (px_nf c0))
    refine px_PW.steps kt_125.2 2 rfl ?_
    refine px_PW.callV kt_125.2 rfl rfl rfl rfl (mm_error 1 (by decide)) (by decide) (fun v h1 q => ?_)
    obtain ⟨rfl, rfl⟩ := q
    refine px_PW.ret kt_125.2 rfl rfl ?_
    have E : s_mfeed P Z F word n = ((-1000000000 - 1), Z, F) := if_neg c0
    rw [E]
    exact ⟨rfl, _, _, px_sm.err, rfl⟩
theorem mm_above (k : Int32) (h : px_H) : px_PM 1 185 [.int k] h (fun r h' => r = some (.int (s_above k)) ∧ h' = h) := by
  refine px_PM.start (nL := 1) (code := pc_185) rfl rfl ?_
  refine px_PW.steps kt_185.2 3 rfl ?_
  refine px_PW.br (fun c0 => ?_) (fun c0 => ?_)
  · have c0 : ¬ (k = 4) := of_decide_eq_false (px_nt c0)
    refine px_PW.steps kt_185.2 3 rfl ?_
    refine px_PW.br (fun c1 => ?_) (fun c1 => ?_)
    · have c1 : ¬ (k = 5) := of_decide_eq_false (px_nt c1)
      refine px_PW.steps kt_185.2 3 rfl ?_
      refine px_PW.br (fun c2 => ?_) (fun c2 => ?_)
      · have c2 : ¬ (k = 6) := of_decide_eq_false (px_nt c2)
        refine px_PW.steps kt_185.2 1 rfl ?_
        refine px_PW.ret kt_185.2 rfl rfl ?_
        exact ⟨congrArg (fun z => some (Value.int z)) (show s_above k = 0 from (if_neg c0).trans ((if_neg c1).trans (if_neg c2))).symm, rfl⟩
      · have c2 : k = 6 := of_decide_eq_true (px_nf c2)
        refine px_PW.steps kt_185.2 2 rfl ?_
        refine px_PW.ret kt_185.2 rfl rfl ?_
        exact ⟨congrArg (fun z => some (Value.int z)) (show s_above k = 3 from (if_neg c0).trans ((if_neg c1).trans (if_pos c2))).symm, rfl⟩
    · have c1 : k = 5 := of_decide_eq_true (px_nf c1)
      refine px_PW.steps kt_185.2 2 rfl ?_
      refine px_PW.ret kt_185.2 rfl rfl ?_
      exact ⟨congrArg (fun z => some (Value.int z)) (show s_above k = 2 from (if_neg c0).trans (if_pos c1)).symm, rfl⟩
  · have c0 : k = 4 := of_decide_eq_true (px_nf c0)
    refine px_PW.steps kt_185.2 2 rfl ?_
    refine px_PW.ret kt_185.2 rfl rfl ?_
    exact ⟨congrArg (fun z => some (Value.int z)) (show s_above k = 1 from if_pos c0).symm, rfl⟩
/-- up from a kind to the one asked, or to THING -/
def s_mup (kind : Int32) : Nat → Int32 → Int32
  | 0, is => is
  | m + 1, is => if is = kind then is else if is = 0 then is else s_mup kind m (s_above is)
theorem s_above_k : ∀ K : Nat, K < 7 → s_above (nI K) = 0 ∨ s_above (s_above (nI K)) = 0 := by
  have h : ∀ K : Fin 7, s_above (nI K.1) = 0 ∨ s_above (s_above (nI K.1)) = 0 := by decide +kernel
  exact fun K hK => h ⟨K, hK⟩
theorem m_as_loop {Z : Nat → Int32} {F : Nat → Nat → Int32} {thing kind : Int32} {Q : Option Value → px_H → Prop} : ∀ (m : Nat) (is : Int32), (m = 0 → is = 0) → (m = 1 → s_above is = 0) → (m = 2 → s_above is = 0 ∨ s_above (s_above is) = 0) → m ≤ 2 → px_PW 2 pc_165 Q 48 [some (.ref 1000), some (.int thing), some (.int kind), some (.int (s_mup kind m is))] [] ([], px_MH Z F) → px_PW 2 pc_165 Q 31 [some (.ref 1000), some (.int thing), some (.int kind), some (.int is)] [] ([], px_MH Z F)
  | m, is, h0, h1, h2, hm, H => by
    refine px_PW.steps kt_165.2 3 rfl ?_
    refine px_PW.br (fun c0 => ?_) (fun c0 => ?_)
    · have c0 : is = kind := of_decide_eq_true c0
      have e : s_mup kind m is = is := by
        cases m with
        | zero => rfl
        | succ n => exact if_pos c0
      rw [e] at H
      exact H
    · have c0 : ¬ (is = kind) := of_decide_eq_false c0
      refine px_PW.steps kt_165.2 2 rfl ?_
      refine px_PW.br (fun c1 => ?_) (fun c1 => ?_)
      · have c1 : is = 0 := of_decide_eq_true c1
        have e : s_mup kind m is = is := by
          cases m with
          | zero => rfl
          | succ n => exact (if_neg c0).trans (if_pos c1)
        rw [e] at H
        exact H
      · have c1 : ¬ (is = 0) := of_decide_eq_false c1
        refine px_PW.steps kt_165.2 1 rfl ?_
        refine px_PW.callS kt_165.2 rfl rfl rfl (mm_above _ _) (by decide) (fun v h1 q => ?_)
        obtain ⟨rfl, rfl⟩ := q
        refine px_PW.steps kt_165.2 2 rfl ?_
        cases m with
        | zero => exact absurd (h0 rfl) c1
        | succ n =>
          have e : s_mup kind (n + 1) is = s_mup kind n (s_above is) := (if_neg c0).trans (if_neg c1)
          rw [e] at H
          refine m_as_loop n (s_above is) (fun q => h1 (by omega)) (fun q => ?_) (fun q => by omega) (by omega) H
          rcases h2 (by omega) with r | r
          · rw [r]; rfl
          · exact r
def s_mas (Z : Nat → Int32) (F : Nat → Nat → Int32) (thing : Int32) (kind : Int32) : Int32 := (if 0 ≤ thing ∧ thing ≤ ((F 0) 10) - 1 then (if 0 ≤ kind ∧ kind ≤ 6 then (if (s_mup kind 2 (F 0 (12 + 4 * thing.toNatClampNeg + 0))) = kind then ((F 0) (12 + 4 * thing.toNatClampNeg + 1)) else (-1000000000 - 5)) else (-1000000000 - 1)) else (-1000000000 - 1))
theorem kc_mas {Z : Nat → Int32} {F : Nat → Nat → Int32} {M : Nat} (hM : F 0 10 = nI M) (hM6 : M ≤ 6) (hkd : ∀ n : Nat, n < M → ∃ kd : Nat, kd < 7 ∧ F 0 (12 + 4 * n + 0) = nI kd) (thing : Int32) (kind : Int32) : px_PM 3 165 [.ref 1000, .int thing, .int kind] ([], px_MH Z F) (fun r h' => r = some (.int (s_mas Z F thing kind)) ∧ ∃ Z' F', px_sm Z F Z' F' ∧ h' = ([], px_MH Z' F')) := by
  refine px_PM.start (nL := 4) (code := pc_165) rfl rfl ?_
  refine px_PW.steps kt_165.2 2 rfl ?_
  refine px_PW.callV kt_165.2 rfl rfl rfl rfl (mm_isThing _) (by decide) (fun v h1 q => ?_)
  obtain ⟨rfl, rfl⟩ := q
  refine px_PW.steps kt_165.2 1 rfl ?_
  refine px_PW.br (fun c0 => ?_) (fun c0 => ?_)
  · have c0 : ¬ (0 ≤ thing ∧ thing ≤ ((F 0) 10) - 1) := px_b1z (of_decide_eq_true c0)
    refine px_PW.steps kt_165.2 2 rfl ?_
    refine px_PW.callV kt_165.2 rfl rfl rfl rfl (mm_error 1 (by decide)) (by decide) (fun v h1 q => ?_)
    obtain ⟨rfl, rfl⟩ := q
    refine px_PW.ret kt_165.2 rfl rfl ?_
    have E : s_mas Z F thing kind = (-1000000000 - 1) := if_neg c0
    rw [E]
    exact ⟨rfl, _, _, px_sm.err, rfl⟩
  · have c0 : 0 ≤ thing ∧ thing ≤ ((F 0) 10) - 1 := px_b1n (of_decide_eq_false c0)
    refine px_PW.steps kt_165.2 3 rfl ?_
    refine px_PW.callS kt_165.2 rfl rfl rfl (cm_117 _ _ _ _) (by decide) (fun v h1 q => ?_)
    obtain ⟨rfl, rfl⟩ := q
    refine px_PW.steps kt_165.2 1 rfl ?_
    refine px_PW.br (fun c1 => ?_) (fun c1 => ?_)
    · have c1 : 0 ≤ kind ∧ kind ≤ 6 := px_b1n (of_decide_eq_false (px_nt c1))
      refine px_PW.steps kt_165.2 3 rfl ?_
      refine px_PW.callV kt_165.2 rfl rfl rfl rfl (mm_its (n := thing.toNatClampNeg) (k := 0) (px_thN hM hM6 c0).1 rfl (px_thN hM hM6 c0).2.2 (by omega)) (by decide) (fun v h1 q => ?_)
      obtain ⟨rfl, rfl⟩ := q
      refine px_PW.steps kt_165.2 1 rfl ?_
      refine m_as_loop 2 (F 0 (12 + 4 * thing.toNatClampNeg + 0)) (fun q => absurd q (by decide)) (fun q => absurd q (by decide)) (fun _ => by obtain ⟨kd, h7, e⟩ := hkd _ (px_thN hM hM6 c0).2.1; rw [e]; exact s_above_k kd h7) (Nat.le_refl 2) ?_
      refine px_PW.steps kt_165.2 3 rfl ?_
      refine px_PW.br (fun c2 => ?_) (fun c2 => ?_)
      · have c2 : ¬ ((s_mup kind 2 (F 0 (12 + 4 * thing.toNatClampNeg + 0))) = kind) := of_decide_eq_false (px_nt c2)
        refine px_PW.steps kt_165.2 2 rfl ?_
        refine px_PW.callV kt_165.2 rfl rfl rfl rfl (mm_error 5 (by decide)) (by decide) (fun v h1 q => ?_)
        obtain ⟨rfl, rfl⟩ := q
        refine px_PW.ret kt_165.2 rfl rfl ?_
        have E : s_mas Z F thing kind = (-1000000000 - 5) := (if_pos c0).trans ((if_pos c1).trans (if_neg c2))
        rw [E]
        exact ⟨rfl, _, _, px_sm.err, rfl⟩
      · have c2 : (s_mup kind 2 (F 0 (12 + 4 * thing.toNatClampNeg + 0))) = kind := of_decide_eq_true (px_nf c2)
        refine px_PW.steps kt_165.2 3 rfl ?_
        refine px_PW.callV kt_165.2 rfl rfl rfl rfl (mm_its (n := thing.toNatClampNeg) (k := 1) (px_thN hM hM6 c0).1 rfl (px_thN hM hM6 c0).2.2 (by omega)) (by decide) (fun v h1 q => ?_)
        obtain ⟨rfl, rfl⟩ := q
        refine px_PW.steps kt_165.2 1 rfl ?_
        refine px_PW.ret kt_165.2 rfl rfl ?_
        have E : s_mas Z F thing kind = ((F 0) (12 + 4 * thing.toNatClampNeg + 1)) := (if_pos c0).trans ((if_pos c1).trans (if_pos c2))
        rw [E]
        exact ⟨rfl, _, _, px_sm.rf, rfl⟩
    · have c1 : ¬ (0 ≤ kind ∧ kind ≤ 6) := px_b1z (of_decide_eq_true (px_nf c1))
      refine px_PW.steps kt_165.2 2 rfl ?_
      refine px_PW.callV kt_165.2 rfl rfl rfl rfl (mm_error 1 (by decide)) (by decide) (fun v h1 q => ?_)
      obtain ⟨rfl, rfl⟩ := q
      refine px_PW.ret kt_165.2 rfl rfl ?_
      have E : s_mas Z F thing kind = (-1000000000 - 1) := (if_pos c0).trans (if_neg c1)
      rw [E]
      exact ⟨rfl, _, _, px_sm.err, rfl⟩
theorem px_inS {x i : Int32} {S : Nat} (hS : x = nI S) (hb : S < 1000) (c : 0 ≤ i ∧ i ≤ x - 1) : i = nI i.toNatClampNeg ∧ i.toNatClampNeg < S := by
  obtain ⟨n, hn, rfl⟩ := nI_of (Int32.not_lt.mpr c.1)
  have c2 := c.2
  rw [nI_clamp (by omega)]
  subst hS
  cases S with
  | zero =>
    have h1 : nI 0 - 1 = (-1 : Int32) := by decide
    rw [h1, Int32.le_iff_toInt_le, nI_toInt (by omega)] at c2
    have h2 : (-1 : Int32).toInt = -1 := by decide
    omega
  | succ S =>
    rw [nI_pred, nI_leI (by omega) (by omega)] at c2
    exact ⟨rfl, by omega⟩
theorem px_ixS {i : Int32} {k n : Nat} (hi : i = nI n) : 24 * nI k + i = nI (24 * k + n) := by
  subst hi
  rw [show (24 : Int32) = nI 24 from rfl, zz_mul, nI_add]
def s_mput (Z : Nat → Int32) (F : Nat → Nat → Int32) (k : Nat) (i : Int32) (v : Int32) : Int32 × (Nat → Int32) × (Nat → Nat → Int32) := (if ((F 11) k) = 0 then ((-1000000000 - 2), Z, F) else (if 0 ≤ i ∧ i ≤ (((F 12) k) - 1) then (1, Z, (va_up F 13 (upd (F 13) (24 * k + i.toNatClampNeg) ((v <<< ((32 - ((F 11) k)) &&& 31)) >>> ((32 - ((F 11) k)) &&& 31))))) else ((-1000000000 - 1), Z, F)))
theorem kc_mput {Z : Nat → Int32} {F : Nat → Nat → Int32}  (k : Nat) (i : Int32) (v : Int32) (hk : k < 4) {S : Nat} (hS : F 12 k = nI S) (hS24 : S ≤ 24) : px_PM 3 196 [.ref 1000, .int (nI k), .int i, .int v] ([], px_MH Z F) (fun r h' => r = some (.int (s_mput Z F k i v).1) ∧ ∃ Z' F', px_sm (s_mput Z F k i v).2.1 (s_mput Z F k i v).2.2 Z' F' ∧ h' = ([], px_MH Z' F')) := by
  refine px_PM.start (nL := 5) (code := pc_196) rfl rfl ?_
  refine px_PW.steps kt_196.2 1 rfl ?_
  refine px_PW.callS kt_196.2 rfl rfl rfl (mm_isSheet _ _) (by decide) (fun v h1 q => ?_)
  obtain ⟨rfl, rfl⟩ := q
  refine px_PW.steps kt_196.2 1 rfl ?_
  refine px_PW.br (fun c0 => ?_) (fun c0 => ?_)
  · have c0 : 0 ≤ (nI k) ∧ (nI k) ≤ 3 := px_b1n (of_decide_eq_false (px_nt c0))
    refine px_PW.steps kt_196.2 3 rfl ?_
    refine px_PW.aldN kt_196.2 rfl rfl (n := k) rfl hk ?_
    refine px_PW.steps kt_196.2 1 rfl ?_
    refine px_PW.br (fun c1 => ?_) (fun c1 => ?_)
    · have c1 : ¬ (((F 11) k) = 0) := of_decide_eq_false (px_nt c1)
      refine px_PW.steps kt_196.2 5 rfl ?_
      refine px_PW.aldN kt_196.2 rfl rfl (n := k) rfl hk ?_
      refine px_PW.steps kt_196.2 2 rfl ?_
      refine px_PW.callS kt_196.2 rfl rfl rfl (cm_117 _ _ _ _) (by decide) (fun v h1 q => ?_)
      obtain ⟨rfl, rfl⟩ := q
      refine px_PW.steps kt_196.2 1 rfl ?_
      refine px_PW.br (fun c2 => ?_) (fun c2 => ?_)
      · have c2 : 0 ≤ i ∧ i ≤ (((F 12) k) - 1) := px_b1n (of_decide_eq_false (px_nt c2))
        refine px_PW.steps kt_196.2 4 rfl ?_
        refine px_PW.aldN kt_196.2 rfl rfl (n := k) rfl hk ?_
        refine px_PW.steps kt_196.2 14 rfl ?_
        refine ms_13 kt_196.2 rfl (n := 24 * k + i.toNatClampNeg) (px_ixS (px_inS hS (by omega) c2).1) (by have := (px_inS hS (by omega) c2).2; omega) ?_
        refine px_PW.steps kt_196.2 1 rfl ?_
        refine px_PW.ret kt_196.2 rfl rfl ?_
        have E : s_mput Z F k i v = (1, Z, (va_up F 13 (upd (F 13) (24 * k + i.toNatClampNeg) ((v <<< ((32 - ((F 11) k)) &&& 31)) >>> ((32 - ((F 11) k)) &&& 31))))) := (if_neg c1).trans (if_pos c2)
        rw [E]
        exact ⟨rfl, _, _, px_sm.rf, rfl⟩
      · have c2 : ¬ (0 ≤ i ∧ i ≤ (((F 12) k) - 1)) := px_b1z (of_decide_eq_true (px_nf c2))
        refine px_PW.steps kt_196.2 2 rfl ?_
        refine px_PW.callV kt_196.2 rfl rfl rfl rfl (mm_error 1 (by decide)) (by decide) (fun v h1 q => ?_)
        obtain ⟨rfl, rfl⟩ := q
        refine px_PW.ret kt_196.2 rfl rfl ?_
        have E : s_mput Z F k i v = ((-1000000000 - 1), Z, F) := (if_neg c1).trans (if_neg c2)
        rw [E]
        exact ⟨rfl, _, _, px_sm.err, rfl⟩
    · have c1 : ((F 11) k) = 0 := of_decide_eq_true (px_nf c1)
      refine px_PW.steps kt_196.2 2 rfl ?_
      refine px_PW.callV kt_196.2 rfl rfl rfl rfl (mm_error 2 (by decide)) (by decide) (fun v h1 q => ?_)
      obtain ⟨rfl, rfl⟩ := q
      refine px_PW.ret kt_196.2 rfl rfl ?_
      have E : s_mput Z F k i v = ((-1000000000 - 2), Z, F) := if_pos c1
      rw [E]
      exact ⟨rfl, _, _, px_sm.err, rfl⟩
  · have c0 : ¬ (0 ≤ (nI k) ∧ (nI k) ≤ 3) := px_b1z (of_decide_eq_true (px_nf c0))
    exact absurd (px_sh_ok hk) c0
def s_mputB (Z : Nat → Int32) (F : Nat → Nat → Int32) (sheet : Int32) (i : Int32) (v : Int32) : Int32 × (Nat → Int32) × (Nat → Nat → Int32) := ((-1000000000 - 1), Z, F)
theorem kc_mputB {Z : Nat → Int32} {F : Nat → Nat → Int32}  (sheet : Int32) (i : Int32) (v : Int32) (hb : sheet < 0 ∨ 4 ≤ sheet) : px_PM 3 196 [.ref 1000, .int sheet, .int i, .int v] ([], px_MH Z F) (fun r h' => r = some (.int (s_mputB Z F sheet i v).1) ∧ ∃ Z' F', px_sm (s_mputB Z F sheet i v).2.1 (s_mputB Z F sheet i v).2.2 Z' F' ∧ h' = ([], px_MH Z' F')) := by
  refine px_PM.start (nL := 5) (code := pc_196) rfl rfl ?_
  refine px_PW.steps kt_196.2 1 rfl ?_
  refine px_PW.callS kt_196.2 rfl rfl rfl (mm_isSheet _ _) (by decide) (fun v h1 q => ?_)
  obtain ⟨rfl, rfl⟩ := q
  refine px_PW.steps kt_196.2 1 rfl ?_
  refine px_PW.br (fun c0 => ?_) (fun c0 => ?_)
  · have c0 : 0 ≤ sheet ∧ sheet ≤ 3 := px_b1n (of_decide_eq_false (px_nt c0))
    exact absurd c0 (px_sh_no hb)
  · have c0 : ¬ (0 ≤ sheet ∧ sheet ≤ 3) := px_b1z (of_decide_eq_true (px_nf c0))
    refine px_PW.steps kt_196.2 2 rfl ?_
    refine px_PW.callV kt_196.2 rfl rfl rfl rfl (mm_error 1 (by decide)) (by decide) (fun v h1 q => ?_)
    obtain ⟨rfl, rfl⟩ := q
    refine px_PW.ret kt_196.2 rfl rfl ?_
    have E : s_mputB Z F sheet i v = ((-1000000000 - 1), Z, F) := rfl
    rw [E]
    exact ⟨rfl, _, _, px_sm.err, rfl⟩
theorem m_sheet_loop {Z g : Nat → Int32} {F : Nat → Nat → Int32} {k : Nat} (hk : k < 4) {bits n : Int32} {Q : Option Value → px_H → Prop} : ∀ (m j : Nat), j + m = 24 → px_PW 2 pc_195 Q 116 [some (.ref 1000), some (.int (nI k)), some (.int bits), some (.int n), some (.int (nI 24))] [] ([], px_MH Z (va_up F 13 (zz_pl (fun _ => 0) g (24 * k) 24))) → px_PW 2 pc_195 Q 90 [some (.ref 1000), some (.int (nI k)), some (.int bits), some (.int n), some (.int (nI j))] [] ([], px_MH Z (va_up F 13 (zz_pl (fun _ => 0) g (24 * k) j)))
  | m, j, hj, H => by
    refine px_PW.steps kt_195.2 3 rfl ?_
    refine px_PW.br (fun c0 => ?_) (fun c0 => ?_)
    · have c0 : 24 ≤ (nI j) := of_decide_eq_true c0
      have c0 : 24 ≤ j := (nI_leI (a := 24) (b := j) (by omega) (by omega)).mp c0
      obtain rfl : m = 0 := by omega
      obtain rfl : j = 24 := by omega
      exact H
    · have c0 : ¬ (24 ≤ (nI j)) := of_decide_eq_false c0
      have c0 : ¬ (24 ≤ j) := fun q => c0 ((nI_leI (a := 24) (b := j) (by omega) (by omega)).mpr q)
      obtain ⟨m2, rfl⟩ : ∃ m2, m = m2 + 1 := ⟨m - 1, by omega⟩
      refine px_PW.steps kt_195.2 8 rfl ?_
      refine ms_13 kt_195.2 rfl (n := 24 * k + j) (px_ixS rfl) (by omega) ?_
      refine px_PW.steps kt_195.2 2 rfl ?_
      have g2 := m_sheet_loop hk (Z := Z) (g := g) (F := F) (bits := bits) (n := n) (Q := Q) m2 (j + 1) (by omega) H
      have e2 : va_up F 13 (zz_pl (fun _ => 0) g (24 * k) (j + 1)) = (va_up (va_up F 13 (zz_pl (fun _ => 0) g (24 * k) j)) 13 (upd (zz_pl (fun _ => 0) g (24 * k) j) (24 * k + j) 0)) := by rw [px_up_up, ← zz_pl_s]
      rw [e2, nI_succ j] at g2
      exact g2
def s_msheet (Z : Nat → Int32) (F : Nat → Nat → Int32) (k : Nat) (bits : Int32) (n : Int32) : Int32 × (Nat → Int32) × (Nat → Nat → Int32) := (if bits = 0 then (if bits = 0 then (if bits = 0 then (if bits = 0 then (1, Z, (va_up (va_up (va_up F 11 (upd (F 11) k bits)) 12 (upd (F 12) k 0)) 13 (zz_pl (fun _ => 0) (F 13) (24 * k) 24))) else (1, Z, (va_up (va_up (va_up F 11 (upd (F 11) k bits)) 12 (upd (F 12) k n)) 13 (zz_pl (fun _ => 0) (F 13) (24 * k) 24)))) else (if n ≤ 24 then (if bits = 0 then (1, Z, (va_up (va_up (va_up F 11 (upd (F 11) k bits)) 12 (upd (F 12) k 0)) 13 (zz_pl (fun _ => 0) (F 13) (24 * k) 24))) else (1, Z, (va_up (va_up (va_up F 11 (upd (F 11) k bits)) 12 (upd (F 12) k n)) 13 (zz_pl (fun _ => 0) (F 13) (24 * k) 24)))) else ((-1000000000 - 1), Z, F))) else (if 0 ≤ n then (if bits = 0 then (if bits = 0 then (1, Z, (va_up (va_up (va_up F 11 (upd (F 11) k bits)) 12 (upd (F 12) k 0)) 13 (zz_pl (fun _ => 0) (F 13) (24 * k) 24))) else (1, Z, (va_up (va_up (va_up F 11 (upd (F 11) k bits)) 12 (upd (F 12) k n)) 13 (zz_pl (fun _ => 0) (F 13) (24 * k) 24)))) else (if n ≤ 24 then (if bits = 0 then (1, Z, (va_up (va_up (va_up F 11 (upd (F 11) k bits)) 12 (upd (F 12) k 0)) 13 (zz_pl (fun _ => 0) (F 13) (24 * k) 24))) else (1, Z, (va_up (va_up (va_up F 11 (upd (F 11) k bits)) 12 (upd (F 12) k n)) 13 (zz_pl (fun _ => 0) (F 13) (24 * k) 24)))) else ((-1000000000 - 1), Z, F))) else ((-1000000000 - 3), Z, F))) else (if bits = 8 then (if bits = 0 then (if bits = 0 then (if bits = 0 then (1, Z, (va_up (va_up (va_up F 11 (upd (F 11) k bits)) 12 (upd (F 12) k 0)) 13 (zz_pl (fun _ => 0) (F 13) (24 * k) 24))) else (1, Z, (va_up (va_up (va_up F 11 (upd (F 11) k bits)) 12 (upd (F 12) k n)) 13 (zz_pl (fun _ => 0) (F 13) (24 * k) 24)))) else (if n ≤ 24 then (if bits = 0 then (1, Z, (va_up (va_up (va_up F 11 (upd (F 11) k bits)) 12 (upd (F 12) k 0)) 13 (zz_pl (fun _ => 0) (F 13) (24 * k) 24))) else (1, Z, (va_up (va_up (va_up F 11 (upd (F 11) k bits)) 12 (upd (F 12) k n)) 13 (zz_pl (fun _ => 0) (F 13) (24 * k) 24)))) else ((-1000000000 - 1), Z, F))) else (if 0 ≤ n then (if bits = 0 then (if bits = 0 then (1, Z, (va_up (va_up (va_up F 11 (upd (F 11) k bits)) 12 (upd (F 12) k 0)) 13 (zz_pl (fun _ => 0) (F 13) (24 * k) 24))) else (1, Z, (va_up (va_up (va_up F 11 (upd (F 11) k bits)) 12 (upd (F 12) k n)) 13 (zz_pl (fun _ => 0) (F 13) (24 * k) 24)))) else (if n ≤ 24 then (if bits = 0 then (1, Z, (va_up (va_up (va_up F 11 (upd (F 11) k bits)) 12 (upd (F 12) k 0)) 13 (zz_pl (fun _ => 0) (F 13) (24 * k) 24))) else (1, Z, (va_up (va_up (va_up F 11 (upd (F 11) k bits)) 12 (upd (F 12) k n)) 13 (zz_pl (fun _ => 0) (F 13) (24 * k) 24)))) else ((-1000000000 - 1), Z, F))) else ((-1000000000 - 3), Z, F))) else (if bits = 16 then (if bits = 0 then (if bits = 0 then (if bits = 0 then (1, Z, (va_up (va_up (va_up F 11 (upd (F 11) k bits)) 12 (upd (F 12) k 0)) 13 (zz_pl (fun _ => 0) (F 13) (24 * k) 24))) else (1, Z, (va_up (va_up (va_up F 11 (upd (F 11) k bits)) 12 (upd (F 12) k n)) 13 (zz_pl (fun _ => 0) (F 13) (24 * k) 24)))) else (if n ≤ 24 then (if bits = 0 then (1, Z, (va_up (va_up (va_up F 11 (upd (F 11) k bits)) 12 (upd (F 12) k 0)) 13 (zz_pl (fun _ => 0) (F 13) (24 * k) 24))) else (1, Z, (va_up (va_up (va_up F 11 (upd (F 11) k bits)) 12 (upd (F 12) k n)) 13 (zz_pl (fun _ => 0) (F 13) (24 * k) 24)))) else ((-1000000000 - 1), Z, F))) else (if 0 ≤ n then (if bits = 0 then (if bits = 0 then (1, Z, (va_up (va_up (va_up F 11 (upd (F 11) k bits)) 12 (upd (F 12) k 0)) 13 (zz_pl (fun _ => 0) (F 13) (24 * k) 24))) else (1, Z, (va_up (va_up (va_up F 11 (upd (F 11) k bits)) 12 (upd (F 12) k n)) 13 (zz_pl (fun _ => 0) (F 13) (24 * k) 24)))) else (if n ≤ 24 then (if bits = 0 then (1, Z, (va_up (va_up (va_up F 11 (upd (F 11) k bits)) 12 (upd (F 12) k 0)) 13 (zz_pl (fun _ => 0) (F 13) (24 * k) 24))) else (1, Z, (va_up (va_up (va_up F 11 (upd (F 11) k bits)) 12 (upd (F 12) k n)) 13 (zz_pl (fun _ => 0) (F 13) (24 * k) 24)))) else ((-1000000000 - 1), Z, F))) else ((-1000000000 - 3), Z, F))) else (if bits = 32 then (if bits = 0 then (if bits = 0 then (if bits = 0 then (1, Z, (va_up (va_up (va_up F 11 (upd (F 11) k bits)) 12 (upd (F 12) k 0)) 13 (zz_pl (fun _ => 0) (F 13) (24 * k) 24))) else (1, Z, (va_up (va_up (va_up F 11 (upd (F 11) k bits)) 12 (upd (F 12) k n)) 13 (zz_pl (fun _ => 0) (F 13) (24 * k) 24)))) else (if n ≤ 24 then (if bits = 0 then (1, Z, (va_up (va_up (va_up F 11 (upd (F 11) k bits)) 12 (upd (F 12) k 0)) 13 (zz_pl (fun _ => 0) (F 13) (24 * k) 24))) else (1, Z, (va_up (va_up (va_up F 11 (upd (F 11) k bits)) 12 (upd (F 12) k n)) 13 (zz_pl (fun _ => 0) (F 13) (24 * k) 24)))) else ((-1000000000 - 1), Z, F))) else (if 0 ≤ n then (if bits = 0 then (if bits = 0 then (1, Z, (va_up (va_up (va_up F 11 (upd (F 11) k bits)) 12 (upd (F 12) k 0)) 13 (zz_pl (fun _ => 0) (F 13) (24 * k) 24))) else (1, Z, (va_up (va_up (va_up F 11 (upd (F 11) k bits)) 12 (upd (F 12) k n)) 13 (zz_pl (fun _ => 0) (F 13) (24 * k) 24)))) else (if n ≤ 24 then (if bits = 0 then (1, Z, (va_up (va_up (va_up F 11 (upd (F 11) k bits)) 12 (upd (F 12) k 0)) 13 (zz_pl (fun _ => 0) (F 13) (24 * k) 24))) else (1, Z, (va_up (va_up (va_up F 11 (upd (F 11) k bits)) 12 (upd (F 12) k n)) 13 (zz_pl (fun _ => 0) (F 13) (24 * k) 24)))) else ((-1000000000 - 1), Z, F))) else ((-1000000000 - 3), Z, F))) else ((-1000000000 - 1), Z, F)))))
theorem kc_msheet {Z : Nat → Int32} {F : Nat → Nat → Int32}  (k : Nat) (bits : Int32) (n : Int32) (hk : k < 4) : px_PM 3 195 [.ref 1000, .int (nI k), .int bits, .int n] ([], px_MH Z F) (fun r h' => r = some (.int (s_msheet Z F k bits n).1) ∧ ∃ Z' F', px_sm (s_msheet Z F k bits n).2.1 (s_msheet Z F k bits n).2.2 Z' F' ∧ h' = ([], px_MH Z' F')) := by
  refine px_PM.start (nL := 5) (code := pc_195) rfl rfl ?_
  refine px_PW.steps kt_195.2 1 rfl ?_
  refine px_PW.callS kt_195.2 rfl rfl rfl (mm_isSheet _ _) (by decide) (fun v h1 q => ?_)
  obtain ⟨rfl, rfl⟩ := q
  refine px_PW.steps kt_195.2 1 rfl ?_
  refine px_PW.br (fun c0 => ?_) (fun c0 => ?_)
  · have c0 : ¬ (0 ≤ (nI k) ∧ (nI k) ≤ 3) := px_b1z (of_decide_eq_true c0)
    exact absurd (px_sh_ok hk) c0
  · have c0 : 0 ≤ (nI k) ∧ (nI k) ≤ 3 := px_b1n (of_decide_eq_false c0)
    refine px_PW.steps kt_195.2 2 rfl ?_
    refine px_PW.br (fun c1 => ?_) (fun c1 => ?_)
    · have c1 : bits = 0 := of_decide_eq_true c1
      refine px_PW.steps kt_195.2 2 rfl ?_
      refine px_PW.br (fun c2 => ?_) (fun c2 => ?_)
      · have c2 : bits = 0 := of_decide_eq_true c2
        refine px_PW.steps kt_195.2 2 rfl ?_
        refine px_PW.br (fun c3 => ?_) (fun c3 => ?_)
        · have c3 : bits = 0 := of_decide_eq_true c3
          refine px_PW.steps kt_195.2 4 rfl ?_
          refine ms_11 kt_195.2 rfl (n := k) rfl hk ?_
          refine px_PW.steps kt_195.2 5 rfl ?_
          refine px_PW.br (fun c4 => ?_) (fun c4 => ?_)
          · have c4 : ¬ (bits = 0) := of_decide_eq_false (px_nt c4)
            refine px_PW.steps kt_195.2 1 rfl ?_
            refine ms_12 kt_195.2 rfl (n := k) rfl hk ?_
            refine px_PW.steps kt_195.2 2 rfl ?_
            refine px_PW.hp (h' := ([], px_MH Z (va_up (va_up (va_up F 11 (upd (F 11) k bits)) 12 (upd (F 12) k n)) 13 (zz_pl (fun _ => 0) (F 13) (24 * k) 0)))) (by rw [zz_pl_0]; exact congrArg (fun z => ([], px_MH Z z)) (px_up_id (va_up (va_up F 11 (upd (F 11) k bits)) 12 (upd (F 12) k n)) 13).symm) ?_
            refine m_sheet_loop hk 24 0 (by omega) ?_
            refine px_PW.steps kt_195.2 1 rfl ?_
            refine px_PW.ret kt_195.2 rfl rfl ?_
            have E : s_msheet Z F k bits n = (1, Z, (va_up (va_up (va_up F 11 (upd (F 11) k bits)) 12 (upd (F 12) k n)) 13 (zz_pl (fun _ => 0) (F 13) (24 * k) 24))) := (if_pos c1).trans ((if_pos c2).trans ((if_pos c3).trans (if_neg c4)))
            rw [E]
            exact ⟨rfl, _, _, px_sm.rf, rfl⟩
          · have c4 : bits = 0 := of_decide_eq_true (px_nf c4)
            refine px_PW.steps kt_195.2 2 rfl ?_
            refine ms_12 kt_195.2 rfl (n := k) rfl hk ?_
            refine px_PW.steps kt_195.2 2 rfl ?_
            refine px_PW.hp (h' := ([], px_MH Z (va_up (va_up (va_up F 11 (upd (F 11) k bits)) 12 (upd (F 12) k 0)) 13 (zz_pl (fun _ => 0) (F 13) (24 * k) 0)))) (by rw [zz_pl_0]; exact congrArg (fun z => ([], px_MH Z z)) (px_up_id (va_up (va_up F 11 (upd (F 11) k bits)) 12 (upd (F 12) k 0)) 13).symm) ?_
            refine m_sheet_loop hk 24 0 (by omega) ?_
            refine px_PW.steps kt_195.2 1 rfl ?_
            refine px_PW.ret kt_195.2 rfl rfl ?_
            have E : s_msheet Z F k bits n = (1, Z, (va_up (va_up (va_up F 11 (upd (F 11) k bits)) 12 (upd (F 12) k 0)) 13 (zz_pl (fun _ => 0) (F 13) (24 * k) 24))) := (if_pos c1).trans ((if_pos c2).trans ((if_pos c3).trans (if_pos c4)))
            rw [E]
            exact ⟨rfl, _, _, px_sm.rf, rfl⟩
        · have c3 : ¬ (bits = 0) := of_decide_eq_false c3
          refine px_PW.steps kt_195.2 3 rfl ?_
          refine px_PW.br (fun c5 => ?_) (fun c5 => ?_)
          · have c5 : n ≤ 24 := of_decide_eq_true c5
            refine px_PW.steps kt_195.2 4 rfl ?_
            refine ms_11 kt_195.2 rfl (n := k) rfl hk ?_
            refine px_PW.steps kt_195.2 5 rfl ?_
            refine px_PW.br (fun c6 => ?_) (fun c6 => ?_)
            · have c6 : ¬ (bits = 0) := of_decide_eq_false (px_nt c6)
              refine px_PW.steps kt_195.2 1 rfl ?_
              refine ms_12 kt_195.2 rfl (n := k) rfl hk ?_
              refine px_PW.steps kt_195.2 2 rfl ?_
              refine px_PW.hp (h' := ([], px_MH Z (va_up (va_up (va_up F 11 (upd (F 11) k bits)) 12 (upd (F 12) k n)) 13 (zz_pl (fun _ => 0) (F 13) (24 * k) 0)))) (by rw [zz_pl_0]; exact congrArg (fun z => ([], px_MH Z z)) (px_up_id (va_up (va_up F 11 (upd (F 11) k bits)) 12 (upd (F 12) k n)) 13).symm) ?_
              refine m_sheet_loop hk 24 0 (by omega) ?_
              refine px_PW.steps kt_195.2 1 rfl ?_
              refine px_PW.ret kt_195.2 rfl rfl ?_
              have E : s_msheet Z F k bits n = (1, Z, (va_up (va_up (va_up F 11 (upd (F 11) k bits)) 12 (upd (F 12) k n)) 13 (zz_pl (fun _ => 0) (F 13) (24 * k) 24))) := (if_pos c1).trans ((if_pos c2).trans ((if_neg c3).trans ((if_pos c5).trans (if_neg c6))))
              rw [E]
              exact ⟨rfl, _, _, px_sm.rf, rfl⟩
            · have c6 : bits = 0 := of_decide_eq_true (px_nf c6)
              refine px_PW.steps kt_195.2 2 rfl ?_
              refine ms_12 kt_195.2 rfl (n := k) rfl hk ?_
              refine px_PW.steps kt_195.2 2 rfl ?_
              refine px_PW.hp (h' := ([], px_MH Z (va_up (va_up (va_up F 11 (upd (F 11) k bits)) 12 (upd (F 12) k 0)) 13 (zz_pl (fun _ => 0) (F 13) (24 * k) 0)))) (by rw [zz_pl_0]; exact congrArg (fun z => ([], px_MH Z z)) (px_up_id (va_up (va_up F 11 (upd (F 11) k bits)) 12 (upd (F 12) k 0)) 13).symm) ?_
              refine m_sheet_loop hk 24 0 (by omega) ?_
              refine px_PW.steps kt_195.2 1 rfl ?_
              refine px_PW.ret kt_195.2 rfl rfl ?_
              have E : s_msheet Z F k bits n = (1, Z, (va_up (va_up (va_up F 11 (upd (F 11) k bits)) 12 (upd (F 12) k 0)) 13 (zz_pl (fun _ => 0) (F 13) (24 * k) 24))) := (if_pos c1).trans ((if_pos c2).trans ((if_neg c3).trans ((if_pos c5).trans (if_pos c6))))
              rw [E]
              exact ⟨rfl, _, _, px_sm.rf, rfl⟩
          · have c5 : ¬ (n ≤ 24) := of_decide_eq_false c5
            refine px_PW.steps kt_195.2 2 rfl ?_
            refine px_PW.callV kt_195.2 rfl rfl rfl rfl (mm_error 1 (by decide)) (by decide) (fun v h1 q => ?_)
            obtain ⟨rfl, rfl⟩ := q
            refine px_PW.ret kt_195.2 rfl rfl ?_
            have E : s_msheet Z F k bits n = ((-1000000000 - 1), Z, F) := (if_pos c1).trans ((if_pos c2).trans ((if_neg c3).trans (if_neg c5)))
            rw [E]
            exact ⟨rfl, _, _, px_sm.err, rfl⟩
      · have c2 : ¬ (bits = 0) := of_decide_eq_false c2
        refine px_PW.steps kt_195.2 2 rfl ?_
        refine px_PW.br (fun c7 => ?_) (fun c7 => ?_)
        · have c7 : 0 ≤ n := of_decide_eq_true c7
          refine px_PW.steps kt_195.2 2 rfl ?_
          refine px_PW.br (fun c8 => ?_) (fun c8 => ?_)
          · have c8 : bits = 0 := of_decide_eq_true c8
            refine px_PW.steps kt_195.2 4 rfl ?_
            refine ms_11 kt_195.2 rfl (n := k) rfl hk ?_
            refine px_PW.steps kt_195.2 5 rfl ?_
            refine px_PW.br (fun c9 => ?_) (fun c9 => ?_)
            · have c9 : ¬ (bits = 0) := of_decide_eq_false (px_nt c9)
              refine px_PW.steps kt_195.2 1 rfl ?_
              refine ms_12 kt_195.2 rfl (n := k) rfl hk ?_
              refine px_PW.steps kt_195.2 2 rfl ?_
              refine px_PW.hp (h' := ([], px_MH Z (va_up (va_up (va_up F 11 (upd (F 11) k bits)) 12 (upd (F 12) k n)) 13 (zz_pl (fun _ => 0) (F 13) (24 * k) 0)))) (by rw [zz_pl_0]; exact congrArg (fun z => ([], px_MH Z z)) (px_up_id (va_up (va_up F 11 (upd (F 11) k bits)) 12 (upd (F 12) k n)) 13).symm) ?_
              refine m_sheet_loop hk 24 0 (by omega) ?_
              refine px_PW.steps kt_195.2 1 rfl ?_
              refine px_PW.ret kt_195.2 rfl rfl ?_
              have E : s_msheet Z F k bits n = (1, Z, (va_up (va_up (va_up F 11 (upd (F 11) k bits)) 12 (upd (F 12) k n)) 13 (zz_pl (fun _ => 0) (F 13) (24 * k) 24))) := (if_pos c1).trans ((if_neg c2).trans ((if_pos c7).trans ((if_pos c8).trans (if_neg c9))))
              rw [E]
              exact ⟨rfl, _, _, px_sm.rf, rfl⟩
            · have c9 : bits = 0 := of_decide_eq_true (px_nf c9)
              refine px_PW.steps kt_195.2 2 rfl ?_
              refine ms_12 kt_195.2 rfl (n := k) rfl hk ?_
              refine px_PW.steps kt_195.2 2 rfl ?_
              refine px_PW.hp (h' := ([], px_MH Z (va_up (va_up (va_up F 11 (upd (F 11) k bits)) 12 (upd (F 12) k 0)) 13 (zz_pl (fun _ => 0) (F 13) (24 * k) 0)))) (by rw [zz_pl_0]; exact congrArg (fun z => ([], px_MH Z z)) (px_up_id (va_up (va_up F 11 (upd (F 11) k bits)) 12 (upd (F 12) k 0)) 13).symm) ?_
              refine m_sheet_loop hk 24 0 (by omega) ?_
              refine px_PW.steps kt_195.2 1 rfl ?_
              refine px_PW.ret kt_195.2 rfl rfl ?_
              have E : s_msheet Z F k bits n = (1, Z, (va_up (va_up (va_up F 11 (upd (F 11) k bits)) 12 (upd (F 12) k 0)) 13 (zz_pl (fun _ => 0) (F 13) (24 * k) 24))) := (if_pos c1).trans ((if_neg c2).trans ((if_pos c7).trans ((if_pos c8).trans (if_pos c9))))
              rw [E]
              exact ⟨rfl, _, _, px_sm.rf, rfl⟩
          · have c8 : ¬ (bits = 0) := of_decide_eq_false c8
            refine px_PW.steps kt_195.2 3 rfl ?_
            refine px_PW.br (fun c10 => ?_) (fun c10 => ?_)
            · have c10 : n ≤ 24 := of_decide_eq_true c10
              refine px_PW.steps kt_195.2 4 rfl ?_
              refine ms_11 kt_195.2 rfl (n := k) rfl hk ?_
              refine px_PW.steps kt_195.2 5 rfl ?_
              refine px_PW.br (fun c11 => ?_) (fun c11 => ?_)
              · have c11 : ¬ (bits = 0) := of_decide_eq_false (px_nt c11)
                refine px_PW.steps kt_195.2 1 rfl ?_
                refine ms_12 kt_195.2 rfl (n := k) rfl hk ?_
                refine px_PW.steps kt_195.2 2 rfl ?_
                refine px_PW.hp (h' := ([], px_MH Z (va_up (va_up (va_up F 11 (upd (F 11) k bits)) 12 (upd (F 12) k n)) 13 (zz_pl (fun _ => 0) (F 13) (24 * k) 0)))) (by rw [zz_pl_0]; exact congrArg (fun z => ([], px_MH Z z)) (px_up_id (va_up (va_up F 11 (upd (F 11) k bits)) 12 (upd (F 12) k n)) 13).symm) ?_
                refine m_sheet_loop hk 24 0 (by omega) ?_
                refine px_PW.steps kt_195.2 1 rfl ?_
                refine px_PW.ret kt_195.2 rfl rfl ?_
                have E : s_msheet Z F k bits n = (1, Z, (va_up (va_up (va_up F 11 (upd (F 11) k bits)) 12 (upd (F 12) k n)) 13 (zz_pl (fun _ => 0) (F 13) (24 * k) 24))) := (if_pos c1).trans ((if_neg c2).trans ((if_pos c7).trans ((if_neg c8).trans ((if_pos c10).trans (if_neg c11)))))
                rw [E]
                exact ⟨rfl, _, _, px_sm.rf, rfl⟩
              · have c11 : bits = 0 := of_decide_eq_true (px_nf c11)
                refine px_PW.steps kt_195.2 2 rfl ?_
                refine ms_12 kt_195.2 rfl (n := k) rfl hk ?_
                refine px_PW.steps kt_195.2 2 rfl ?_
                refine px_PW.hp (h' := ([], px_MH Z (va_up (va_up (va_up F 11 (upd (F 11) k bits)) 12 (upd (F 12) k 0)) 13 (zz_pl (fun _ => 0) (F 13) (24 * k) 0)))) (by rw [zz_pl_0]; exact congrArg (fun z => ([], px_MH Z z)) (px_up_id (va_up (va_up F 11 (upd (F 11) k bits)) 12 (upd (F 12) k 0)) 13).symm) ?_
                refine m_sheet_loop hk 24 0 (by omega) ?_
                refine px_PW.steps kt_195.2 1 rfl ?_
                refine px_PW.ret kt_195.2 rfl rfl ?_
                have E : s_msheet Z F k bits n = (1, Z, (va_up (va_up (va_up F 11 (upd (F 11) k bits)) 12 (upd (F 12) k 0)) 13 (zz_pl (fun _ => 0) (F 13) (24 * k) 24))) := (if_pos c1).trans ((if_neg c2).trans ((if_pos c7).trans ((if_neg c8).trans ((if_pos c10).trans (if_pos c11)))))
                rw [E]
                exact ⟨rfl, _, _, px_sm.rf, rfl⟩
            · have c10 : ¬ (n ≤ 24) := of_decide_eq_false c10
              refine px_PW.steps kt_195.2 2 rfl ?_
              refine px_PW.callV kt_195.2 rfl rfl rfl rfl (mm_error 1 (by decide)) (by decide) (fun v h1 q => ?_)
              obtain ⟨rfl, rfl⟩ := q
              refine px_PW.ret kt_195.2 rfl rfl ?_
              have E : s_msheet Z F k bits n = ((-1000000000 - 1), Z, F) := (if_pos c1).trans ((if_neg c2).trans ((if_pos c7).trans ((if_neg c8).trans (if_neg c10))))
              rw [E]
              exact ⟨rfl, _, _, px_sm.err, rfl⟩
        · have c7 : ¬ (0 ≤ n) := of_decide_eq_false c7
          refine px_PW.steps kt_195.2 2 rfl ?_
          refine px_PW.callV kt_195.2 rfl rfl rfl rfl (mm_error 3 (by decide)) (by decide) (fun v h1 q => ?_)
          obtain ⟨rfl, rfl⟩ := q
          refine px_PW.ret kt_195.2 rfl rfl ?_
          have E : s_msheet Z F k bits n = ((-1000000000 - 3), Z, F) := (if_pos c1).trans ((if_neg c2).trans (if_neg c7))
          rw [E]
          exact ⟨rfl, _, _, px_sm.err, rfl⟩
    · have c1 : ¬ (bits = 0) := of_decide_eq_false c1
      refine px_PW.steps kt_195.2 3 rfl ?_
      refine px_PW.br (fun c12 => ?_) (fun c12 => ?_)
      · have c12 : bits = 8 := of_decide_eq_true c12
        refine px_PW.steps kt_195.2 2 rfl ?_
        refine px_PW.br (fun c13 => ?_) (fun c13 => ?_)
        · have c13 : bits = 0 := of_decide_eq_true c13
          refine px_PW.steps kt_195.2 2 rfl ?_
          refine px_PW.br (fun c14 => ?_) (fun c14 => ?_)
          · have c14 : bits = 0 := of_decide_eq_true c14
            refine px_PW.steps kt_195.2 4 rfl ?_
            refine ms_11 kt_195.2 rfl (n := k) rfl hk ?_
            refine px_PW.steps kt_195.2 5 rfl ?_
            refine px_PW.br (fun c15 => ?_) (fun c15 => ?_)
            · have c15 : ¬ (bits = 0) := of_decide_eq_false (px_nt c15)
              refine px_PW.steps kt_195.2 1 rfl ?_
              refine ms_12 kt_195.2 rfl (n := k) rfl hk ?_
              refine px_PW.steps kt_195.2 2 rfl ?_
              refine px_PW.hp (h' := ([], px_MH Z (va_up (va_up (va_up F 11 (upd (F 11) k bits)) 12 (upd (F 12) k n)) 13 (zz_pl (fun _ => 0) (F 13) (24 * k) 0)))) (by rw [zz_pl_0]; exact congrArg (fun z => ([], px_MH Z z)) (px_up_id (va_up (va_up F 11 (upd (F 11) k bits)) 12 (upd (F 12) k n)) 13).symm) ?_
              refine m_sheet_loop hk 24 0 (by omega) ?_
              refine px_PW.steps kt_195.2 1 rfl ?_
              refine px_PW.ret kt_195.2 rfl rfl ?_
              have E : s_msheet Z F k bits n = (1, Z, (va_up (va_up (va_up F 11 (upd (F 11) k bits)) 12 (upd (F 12) k n)) 13 (zz_pl (fun _ => 0) (F 13) (24 * k) 24))) := (if_neg c1).trans ((if_pos c12).trans ((if_pos c13).trans ((if_pos c14).trans (if_neg c15))))
              rw [E]
              exact ⟨rfl, _, _, px_sm.rf, rfl⟩
            · have c15 : bits = 0 := of_decide_eq_true (px_nf c15)
              refine px_PW.steps kt_195.2 2 rfl ?_
              refine ms_12 kt_195.2 rfl (n := k) rfl hk ?_
              refine px_PW.steps kt_195.2 2 rfl ?_
              refine px_PW.hp (h' := ([], px_MH Z (va_up (va_up (va_up F 11 (upd (F 11) k bits)) 12 (upd (F 12) k 0)) 13 (zz_pl (fun _ => 0) (F 13) (24 * k) 0)))) (by rw [zz_pl_0]; exact congrArg (fun z => ([], px_MH Z z)) (px_up_id (va_up (va_up F 11 (upd (F 11) k bits)) 12 (upd (F 12) k 0)) 13).symm) ?_
              refine m_sheet_loop hk 24 0 (by omega) ?_
              refine px_PW.steps kt_195.2 1 rfl ?_
              refine px_PW.ret kt_195.2 rfl rfl ?_
              have E : s_msheet Z F k bits n = (1, Z, (va_up (va_up (va_up F 11 (upd (F 11) k bits)) 12 (upd (F 12) k 0)) 13 (zz_pl (fun _ => 0) (F 13) (24 * k) 24))) := (if_neg c1).trans ((if_pos c12).trans ((if_pos c13).trans ((if_pos c14).trans (if_pos c15))))
              rw [E]
              exact ⟨rfl, _, _, px_sm.rf, rfl⟩
          · have c14 : ¬ (bits = 0) := of_decide_eq_false c14
            refine px_PW.steps kt_195.2 3 rfl ?_
            refine px_PW.br (fun c16 => ?_) (fun c16 => ?_)
            · have c16 : n ≤ 24 := of_decide_eq_true c16
              refine px_PW.steps kt_195.2 4 rfl ?_
              refine ms_11 kt_195.2 rfl (n := k) rfl hk ?_
              refine px_PW.steps kt_195.2 5 rfl ?_
              refine px_PW.br (fun c17 => ?_) (fun c17 => ?_)
              · have c17 : ¬ (bits = 0) := of_decide_eq_false (px_nt c17)
                refine px_PW.steps kt_195.2 1 rfl ?_
                refine ms_12 kt_195.2 rfl (n := k) rfl hk ?_
                refine px_PW.steps kt_195.2 2 rfl ?_
                refine px_PW.hp (h' := ([], px_MH Z (va_up (va_up (va_up F 11 (upd (F 11) k bits)) 12 (upd (F 12) k n)) 13 (zz_pl (fun _ => 0) (F 13) (24 * k) 0)))) (by rw [zz_pl_0]; exact congrArg (fun z => ([], px_MH Z z)) (px_up_id (va_up (va_up F 11 (upd (F 11) k bits)) 12 (upd (F 12) k n)) 13).symm) ?_
                refine m_sheet_loop hk 24 0 (by omega) ?_
                refine px_PW.steps kt_195.2 1 rfl ?_
                refine px_PW.ret kt_195.2 rfl rfl ?_
                have E : s_msheet Z F k bits n = (1, Z, (va_up (va_up (va_up F 11 (upd (F 11) k bits)) 12 (upd (F 12) k n)) 13 (zz_pl (fun _ => 0) (F 13) (24 * k) 24))) := (if_neg c1).trans ((if_pos c12).trans ((if_pos c13).trans ((if_neg c14).trans ((if_pos c16).trans (if_neg c17)))))
                rw [E]
                exact ⟨rfl, _, _, px_sm.rf, rfl⟩
              · have c17 : bits = 0 := of_decide_eq_true (px_nf c17)
                refine px_PW.steps kt_195.2 2 rfl ?_
                refine ms_12 kt_195.2 rfl (n := k) rfl hk ?_
                refine px_PW.steps kt_195.2 2 rfl ?_
                refine px_PW.hp (h' := ([], px_MH Z (va_up (va_up (va_up F 11 (upd (F 11) k bits)) 12 (upd (F 12) k 0)) 13 (zz_pl (fun _ => 0) (F 13) (24 * k) 0)))) (by rw [zz_pl_0]; exact congrArg (fun z => ([], px_MH Z z)) (px_up_id (va_up (va_up F 11 (upd (F 11) k bits)) 12 (upd (F 12) k 0)) 13).symm) ?_
                refine m_sheet_loop hk 24 0 (by omega) ?_
                refine px_PW.steps kt_195.2 1 rfl ?_
                refine px_PW.ret kt_195.2 rfl rfl ?_
                have E : s_msheet Z F k bits n = (1, Z, (va_up (va_up (va_up F 11 (upd (F 11) k bits)) 12 (upd (F 12) k 0)) 13 (zz_pl (fun _ => 0) (F 13) (24 * k) 24))) := (if_neg c1).trans ((if_pos c12).trans ((if_pos c13).trans ((if_neg c14).trans ((if_pos c16).trans (if_pos c17)))))
                rw [E]
                exact ⟨rfl, _, _, px_sm.rf, rfl⟩
            · have c16 : ¬ (n ≤ 24) := of_decide_eq_false c16
              refine px_PW.steps kt_195.2 2 rfl ?_
              refine px_PW.callV kt_195.2 rfl rfl rfl rfl (mm_error 1 (by decide)) (by decide) (fun v h1 q => ?_)
              obtain ⟨rfl, rfl⟩ := q
              refine px_PW.ret kt_195.2 rfl rfl ?_
              have E : s_msheet Z F k bits n = ((-1000000000 - 1), Z, F) := (if_neg c1).trans ((if_pos c12).trans ((if_pos c13).trans ((if_neg c14).trans (if_neg c16))))
              rw [E]
              exact ⟨rfl, _, _, px_sm.err, rfl⟩
        · have c13 : ¬ (bits = 0) := of_decide_eq_false c13
          refine px_PW.steps kt_195.2 2 rfl ?_
          refine px_PW.br (fun c18 => ?_) (fun c18 => ?_)
          · have c18 : 0 ≤ n := of_decide_eq_true c18
            refine px_PW.steps kt_195.2 2 rfl ?_
            refine px_PW.br (fun c19 => ?_) (fun c19 => ?_)
            · have c19 : bits = 0 := of_decide_eq_true c19
              refine px_PW.steps kt_195.2 4 rfl ?_
              refine ms_11 kt_195.2 rfl (n := k) rfl hk ?_
              refine px_PW.steps kt_195.2 5 rfl ?_
              refine px_PW.br (fun c20 => ?_) (fun c20 => ?_)
              · have c20 : ¬ (bits = 0) := of_decide_eq_false (px_nt c20)
                refine px_PW.steps kt_195.2 1 rfl ?_
                refine ms_12 kt_195.2 rfl (n := k) rfl hk ?_
                refine px_PW.steps kt_195.2 2 rfl ?_
                refine px_PW.hp (h' := ([], px_MH Z (va_up (va_up (va_up F 11 (upd (F 11) k bits)) 12 (upd (F 12) k n)) 13 (zz_pl (fun _ => 0) (F 13) (24 * k) 0)))) (by rw [zz_pl_0]; exact congrArg (fun z => ([], px_MH Z z)) (px_up_id (va_up (va_up F 11 (upd (F 11) k bits)) 12 (upd (F 12) k n)) 13).symm) ?_
                refine m_sheet_loop hk 24 0 (by omega) ?_
                refine px_PW.steps kt_195.2 1 rfl ?_
                refine px_PW.ret kt_195.2 rfl rfl ?_
                have E : s_msheet Z F k bits n = (1, Z, (va_up (va_up (va_up F 11 (upd (F 11) k bits)) 12 (upd (F 12) k n)) 13 (zz_pl (fun _ => 0) (F 13) (24 * k) 24))) := (if_neg c1).trans ((if_pos c12).trans ((if_neg c13).trans ((if_pos c18).trans ((if_pos c19).trans (if_neg c20)))))
                rw [E]
                exact ⟨rfl, _, _, px_sm.rf, rfl⟩
              · have c20 : bits = 0 := of_decide_eq_true (px_nf c20)
                refine px_PW.steps kt_195.2 2 rfl ?_
                refine ms_12 kt_195.2 rfl (n := k) rfl hk ?_
                refine px_PW.steps kt_195.2 2 rfl ?_
                refine px_PW.hp (h' := ([], px_MH Z (va_up (va_up (va_up F 11 (upd (F 11) k bits)) 12 (upd (F 12) k 0)) 13 (zz_pl (fun _ => 0) (F 13) (24 * k) 0)))) (by rw [zz_pl_0]; exact congrArg (fun z => ([], px_MH Z z)) (px_up_id (va_up (va_up F 11 (upd (F 11) k bits)) 12 (upd (F 12) k 0)) 13).symm) ?_
                refine m_sheet_loop hk 24 0 (by omega) ?_
                refine px_PW.steps kt_195.2 1 rfl ?_
                refine px_PW.ret kt_195.2 rfl rfl ?_
                have E : s_msheet Z F k bits n = (1, Z, (va_up (va_up (va_up F 11 (upd (F 11) k bits)) 12 (upd (F 12) k 0)) 13 (zz_pl (fun _ => 0) (F 13) (24 * k) 24))) := (if_neg c1).trans ((if_pos c12).trans ((if_neg c13).trans ((if_pos c18).trans ((if_pos c19).trans (if_pos c20)))))
                rw [E]
                exact ⟨rfl, _, _, px_sm.rf, rfl⟩
            · have c19 : ¬ (bits = 0) := of_decide_eq_false c19
              refine px_PW.steps kt_195.2 3 rfl ?_
              refine px_PW.br (fun c21 => ?_) (fun c21 => ?_)
              · have c21 : n ≤ 24 := of_decide_eq_true c21
                refine px_PW.steps kt_195.2 4 rfl ?_
                refine ms_11 kt_195.2 rfl (n := k) rfl hk ?_
                refine px_PW.steps kt_195.2 5 rfl ?_
                refine px_PW.br (fun c22 => ?_) (fun c22 => ?_)
                · have c22 : ¬ (bits = 0) := of_decide_eq_false (px_nt c22)
                  refine px_PW.steps kt_195.2 1 rfl ?_
                  refine ms_12 kt_195.2 rfl (n := k) rfl hk ?_
                  refine px_PW.steps kt_195.2 2 rfl ?_
                  refine px_PW.hp (h' := ([], px_MH Z (va_up (va_up (va_up F 11 (upd (F 11) k bits)) 12 (upd (F 12) k n)) 13 (zz_pl (fun _ => 0) (F 13) (24 * k) 0)))) (by rw [zz_pl_0]; exact congrArg (fun z => ([], px_MH Z z)) (px_up_id (va_up (va_up F 11 (upd (F 11) k bits)) 12 (upd (F 12) k n)) 13).symm) ?_
                  refine m_sheet_loop hk 24 0 (by omega) ?_
                  refine px_PW.steps kt_195.2 1 rfl ?_
                  refine px_PW.ret kt_195.2 rfl rfl ?_
                  have E : s_msheet Z F k bits n = (1, Z, (va_up (va_up (va_up F 11 (upd (F 11) k bits)) 12 (upd (F 12) k n)) 13 (zz_pl (fun _ => 0) (F 13) (24 * k) 24))) := (if_neg c1).trans ((if_pos c12).trans ((if_neg c13).trans ((if_pos c18).trans ((if_neg c19).trans ((if_pos c21).trans (if_neg c22))))))
                  rw [E]
                  exact ⟨rfl, _, _, px_sm.rf, rfl⟩
                · have c22 : bits = 0 := of_decide_eq_true (px_nf c22)
                  refine px_PW.steps kt_195.2 2 rfl ?_
                  refine ms_12 kt_195.2 rfl (n := k) rfl hk ?_
                  refine px_PW.steps kt_195.2 2 rfl ?_
                  refine px_PW.hp (h' := ([], px_MH Z (va_up (va_up (va_up F 11 (upd (F 11) k bits)) 12 (upd (F 12) k 0)) 13 (zz_pl (fun _ => 0) (F 13) (24 * k) 0)))) (by rw [zz_pl_0]; exact congrArg (fun z => ([], px_MH Z z)) (px_up_id (va_up (va_up F 11 (upd (F 11) k bits)) 12 (upd (F 12) k 0)) 13).symm) ?_
                  refine m_sheet_loop hk 24 0 (by omega) ?_
                  refine px_PW.steps kt_195.2 1 rfl ?_
                  refine px_PW.ret kt_195.2 rfl rfl ?_
                  have E : s_msheet Z F k bits n = (1, Z, (va_up (va_up (va_up F 11 (upd (F 11) k bits)) 12 (upd (F 12) k 0)) 13 (zz_pl (fun _ => 0) (F 13) (24 * k) 24))) := (if_neg c1).trans ((if_pos c12).trans ((if_neg c13).trans ((if_pos c18).trans ((if_neg c19).trans ((if_pos c21).trans (if_pos c22))))))
                  rw [E]
                  exact ⟨rfl, _, _, px_sm.rf, rfl⟩
              · have c21 : ¬ (n ≤ 24) := of_decide_eq_false c21
                refine px_PW.steps kt_195.2 2 rfl ?_
                refine px_PW.callV kt_195.2 rfl rfl rfl rfl (mm_error 1 (by decide)) (by decide) (fun v h1 q => ?_)
                obtain ⟨rfl, rfl⟩ := q
                refine px_PW.ret kt_195.2 rfl rfl ?_
                have E : s_msheet Z F k bits n = ((-1000000000 - 1), Z, F) := (if_neg c1).trans ((if_pos c12).trans ((if_neg c13).trans ((if_pos c18).trans ((if_neg c19).trans (if_neg c21)))))
                rw [E]
                exact ⟨rfl, _, _, px_sm.err, rfl⟩
          · have c18 : ¬ (0 ≤ n) := of_decide_eq_false c18
            refine px_PW.steps kt_195.2 2 rfl ?_
            refine px_PW.callV kt_195.2 rfl rfl rfl rfl (mm_error 3 (by decide)) (by decide) (fun v h1 q => ?_)
            obtain ⟨rfl, rfl⟩ := q
            refine px_PW.ret kt_195.2 rfl rfl ?_
            have E : s_msheet Z F k bits n = ((-1000000000 - 3), Z, F) := (if_neg c1).trans ((if_pos c12).trans ((if_neg c13).trans (if_neg c18)))
            rw [E]
            exact ⟨rfl, _, _, px_sm.err, rfl⟩
      · have c12 : ¬ (bits = 8) := of_decide_eq_false c12
        refine px_PW.steps kt_195.2 3 rfl ?_
        refine px_PW.br (fun c23 => ?_) (fun c23 => ?_)
        · have c23 : bits = 16 := of_decide_eq_true c23
          refine px_PW.steps kt_195.2 2 rfl ?_
          refine px_PW.br (fun c24 => ?_) (fun c24 => ?_)
          · have c24 : bits = 0 := of_decide_eq_true c24
            refine px_PW.steps kt_195.2 2 rfl ?_
            refine px_PW.br (fun c25 => ?_) (fun c25 => ?_)
            · have c25 : bits = 0 := of_decide_eq_true c25
              refine px_PW.steps kt_195.2 4 rfl ?_
              refine ms_11 kt_195.2 rfl (n := k) rfl hk ?_
              refine px_PW.steps kt_195.2 5 rfl ?_
              refine px_PW.br (fun c26 => ?_) (fun c26 => ?_)
              · have c26 : ¬ (bits = 0) := of_decide_eq_false (px_nt c26)
                refine px_PW.steps kt_195.2 1 rfl ?_
                refine ms_12 kt_195.2 rfl (n := k) rfl hk ?_
                refine px_PW.steps kt_195.2 2 rfl ?_
                refine px_PW.hp (h' := ([], px_MH Z (va_up (va_up (va_up F 11 (upd (F 11) k bits)) 12 (upd (F 12) k n)) 13 (zz_pl (fun _ => 0) (F 13) (24 * k) 0)))) (by rw [zz_pl_0]; exact congrArg (fun z => ([], px_MH Z z)) (px_up_id (va_up (va_up F 11 (upd (F 11) k bits)) 12 (upd (F 12) k n)) 13).symm) ?_
                refine m_sheet_loop hk 24 0 (by omega) ?_
                refine px_PW.steps kt_195.2 1 rfl ?_
                refine px_PW.ret kt_195.2 rfl rfl ?_
                have E : s_msheet Z F k bits n = (1, Z, (va_up (va_up (va_up F 11 (upd (F 11) k bits)) 12 (upd (F 12) k n)) 13 (zz_pl (fun _ => 0) (F 13) (24 * k) 24))) := (if_neg c1).trans ((if_neg c12).trans ((if_pos c23).trans ((if_pos c24).trans ((if_pos c25).trans (if_neg c26)))))
                rw [E]
                exact ⟨rfl, _, _, px_sm.rf, rfl⟩
              · have c26 : bits = 0 := of_decide_eq_true (px_nf c26)
                refine px_PW.steps kt_195.2 2 rfl ?_
                refine ms_12 kt_195.2 rfl (n := k) rfl hk ?_
                refine px_PW.steps kt_195.2 2 rfl ?_
                refine px_PW.hp (h' := ([], px_MH Z (va_up (va_up (va_up F 11 (upd (F 11) k bits)) 12 (upd (F 12) k 0)) 13 (zz_pl (fun _ => 0) (F 13) (24 * k) 0)))) (by rw [zz_pl_0]; exact congrArg (fun z => ([], px_MH Z z)) (px_up_id (va_up (va_up F 11 (upd (F 11) k bits)) 12 (upd (F 12) k 0)) 13).symm) ?_
                refine m_sheet_loop hk 24 0 (by omega) ?_
                refine px_PW.steps kt_195.2 1 rfl ?_
                refine px_PW.ret kt_195.2 rfl rfl ?_
                have E : s_msheet Z F k bits n = (1, Z, (va_up (va_up (va_up F 11 (upd (F 11) k bits)) 12 (upd (F 12) k 0)) 13 (zz_pl (fun _ => 0) (F 13) (24 * k) 24))) := (if_neg c1).trans ((if_neg c12).trans ((if_pos c23).trans ((if_pos c24).trans ((if_pos c25).trans (if_pos c26)))))
                rw [E]
                exact ⟨rfl, _, _, px_sm.rf, rfl⟩
            · have c25 : ¬ (bits = 0) := of_decide_eq_false c25
              refine px_PW.steps kt_195.2 3 rfl ?_
              refine px_PW.br (fun c27 => ?_) (fun c27 => ?_)
              · have c27 : n ≤ 24 := of_decide_eq_true c27
                refine px_PW.steps kt_195.2 4 rfl ?_
                refine ms_11 kt_195.2 rfl (n := k) rfl hk ?_
                refine px_PW.steps kt_195.2 5 rfl ?_
                refine px_PW.br (fun c28 => ?_) (fun c28 => ?_)
                · have c28 : ¬ (bits = 0) := of_decide_eq_false (px_nt c28)
                  refine px_PW.steps kt_195.2 1 rfl ?_
                  refine ms_12 kt_195.2 rfl (n := k) rfl hk ?_
                  refine px_PW.steps kt_195.2 2 rfl ?_
                  refine px_PW.hp (h' := ([], px_MH Z (va_up (va_up (va_up F 11 (upd (F 11) k bits)) 12 (upd (F 12) k n)) 13 (zz_pl (fun _ => 0) (F 13) (24 * k) 0)))) (by rw [zz_pl_0]; exact congrArg (fun z => ([], px_MH Z z)) (px_up_id (va_up (va_up F 11 (upd (F 11) k bits)) 12 (upd (F 12) k n)) 13).symm) ?_
                  refine m_sheet_loop hk 24 0 (by omega) ?_
                  refine px_PW.steps kt_195.2 1 rfl ?_
                  refine px_PW.ret kt_195.2 rfl rfl ?_
                  have E : s_msheet Z F k bits n = (1, Z, (va_up (va_up (va_up F 11 (upd (F 11) k bits)) 12 (upd (F 12) k n)) 13 (zz_pl (fun _ => 0) (F 13) (24 * k) 24))) := (if_neg c1).trans ((if_neg c12).trans ((if_pos c23).trans ((if_pos c24).trans ((if_neg c25).trans ((if_pos c27).trans (if_neg c28))))))
                  rw [E]
                  exact ⟨rfl, _, _, px_sm.rf, rfl⟩
                · have c28 : bits = 0 := of_decide_eq_true (px_nf c28)
                  refine px_PW.steps kt_195.2 2 rfl ?_
                  refine ms_12 kt_195.2 rfl (n := k) rfl hk ?_
                  refine px_PW.steps kt_195.2 2 rfl ?_
                  refine px_PW.hp (h' := ([], px_MH Z (va_up (va_up (va_up F 11 (upd (F 11) k bits)) 12 (upd (F 12) k 0)) 13 (zz_pl (fun _ => 0) (F 13) (24 * k) 0)))) (by rw [zz_pl_0]; exact congrArg (fun z => ([], px_MH Z z)) (px_up_id (va_up (va_up F 11 (upd (F 11) k bits)) 12 (upd (F 12) k 0)) 13).symm) ?_
                  refine m_sheet_loop hk 24 0 (by omega) ?_
                  refine px_PW.steps kt_195.2 1 rfl ?_
                  refine px_PW.ret kt_195.2 rfl rfl ?_
                  have E : s_msheet Z F k bits n = (1, Z, (va_up (va_up (va_up F 11 (upd (F 11) k bits)) 12 (upd (F 12) k 0)) 13 (zz_pl (fun _ => 0) (F 13) (24 * k) 24))) := (if_neg c1).trans ((if_neg c12).trans ((if_pos c23).trans ((if_pos c24).trans ((if_neg c25).trans ((if_pos c27).trans (if_pos c28))))))
                  rw [E]
                  exact ⟨rfl, _, _, px_sm.rf, rfl⟩
              · have c27 : ¬ (n ≤ 24) := of_decide_eq_false c27
                refine px_PW.steps kt_195.2 2 rfl ?_
                refine px_PW.callV kt_195.2 rfl rfl rfl rfl (mm_error 1 (by decide)) (by decide) (fun v h1 q => ?_)
                obtain ⟨rfl, rfl⟩ := q
                refine px_PW.ret kt_195.2 rfl rfl ?_
                have E : s_msheet Z F k bits n = ((-1000000000 - 1), Z, F) := (if_neg c1).trans ((if_neg c12).trans ((if_pos c23).trans ((if_pos c24).trans ((if_neg c25).trans (if_neg c27)))))
                rw [E]
                exact ⟨rfl, _, _, px_sm.err, rfl⟩
          · have c24 : ¬ (bits = 0) := of_decide_eq_false c24
            refine px_PW.steps kt_195.2 2 rfl ?_
            refine px_PW.br (fun c29 => ?_) (fun c29 => ?_)
            · have c29 : 0 ≤ n := of_decide_eq_true c29
              refine px_PW.steps kt_195.2 2 rfl ?_
              refine px_PW.br (fun c30 => ?_) (fun c30 => ?_)
              · have c30 : bits = 0 := of_decide_eq_true c30
                refine px_PW.steps kt_195.2 4 rfl ?_
                refine ms_11 kt_195.2 rfl (n := k) rfl hk ?_
                refine px_PW.steps kt_195.2 5 rfl ?_
                refine px_PW.br (fun c31 => ?_) (fun c31 => ?_)
                · have c31 : ¬ (bits = 0) := of_decide_eq_false (px_nt c31)
                  refine px_PW.steps kt_195.2 1 rfl ?_
                  refine ms_12 kt_195.2 rfl (n := k) rfl hk ?_
                  refine px_PW.steps kt_195.2 2 rfl ?_
                  refine px_PW.hp (h' := ([], px_MH Z (va_up (va_up (va_up F 11 (upd (F 11) k bits)) 12 (upd (F 12) k n)) 13 (zz_pl (fun _ => 0) (F 13) (24 * k) 0)))) (by rw [zz_pl_0]; exact congrArg (fun z => ([], px_MH Z z)) (px_up_id (va_up (va_up F 11 (upd (F 11) k bits)) 12 (upd (F 12) k n)) 13).symm) ?_
                  refine m_sheet_loop hk 24 0 (by omega) ?_
                  refine px_PW.steps kt_195.2 1 rfl ?_
                  refine px_PW.ret kt_195.2 rfl rfl ?_
                  have E : s_msheet Z F k bits n = (1, Z, (va_up (va_up (va_up F 11 (upd (F 11) k bits)) 12 (upd (F 12) k n)) 13 (zz_pl (fun _ => 0) (F 13) (24 * k) 24))) := (if_neg c1).trans ((if_neg c12).trans ((if_pos c23).trans ((if_neg c24).trans ((if_pos c29).trans ((if_pos c30).trans (if_neg c31))))))
                  rw [E]
                  exact ⟨rfl, _, _, px_sm.rf, rfl⟩
                · have c31 : bits = 0 := of_decide_eq_true (px_nf c31)
                  refine px_PW.steps kt_195.2 2 rfl ?_
                  refine ms_12 kt_195.2 rfl (n := k) rfl hk ?_
                  refine px_PW.steps kt_195.2 2 rfl ?_
                  refine px_PW.hp (h' := ([], px_MH Z (va_up (va_up (va_up F 11 (upd (F 11) k bits)) 12 (upd (F 12) k 0)) 13 (zz_pl (fun _ => 0) (F 13) (24 * k) 0)))) (by rw [zz_pl_0]; exact congrArg (fun z => ([], px_MH Z z)) (px_up_id (va_up (va_up F 11 (upd (F 11) k bits)) 12 (upd (F 12) k 0)) 13).symm) ?_
                  refine m_sheet_loop hk 24 0 (by omega) ?_
                  refine px_PW.steps kt_195.2 1 rfl ?_
                  refine px_PW.ret kt_195.2 rfl rfl ?_
                  have E : s_msheet Z F k bits n = (1, Z, (va_up (va_up (va_up F 11 (upd (F 11) k bits)) 12 (upd (F 12) k 0)) 13 (zz_pl (fun _ => 0) (F 13) (24 * k) 24))) := (if_neg c1).trans ((if_neg c12).trans ((if_pos c23).trans ((if_neg c24).trans ((if_pos c29).trans ((if_pos c30).trans (if_pos c31))))))
                  rw [E]
                  exact ⟨rfl, _, _, px_sm.rf, rfl⟩
              · have c30 : ¬ (bits = 0) := of_decide_eq_false c30
                refine px_PW.steps kt_195.2 3 rfl ?_
                refine px_PW.br (fun c32 => ?_) (fun c32 => ?_)
                · have c32 : n ≤ 24 := of_decide_eq_true c32
                  refine px_PW.steps kt_195.2 4 rfl ?_
                  refine ms_11 kt_195.2 rfl (n := k) rfl hk ?_
                  refine px_PW.steps kt_195.2 5 rfl ?_
                  refine px_PW.br (fun c33 => ?_) (fun c33 => ?_)
                  · have c33 : ¬ (bits = 0) := of_decide_eq_false (px_nt c33)
                    refine px_PW.steps kt_195.2 1 rfl ?_
                    refine ms_12 kt_195.2 rfl (n := k) rfl hk ?_
                    refine px_PW.steps kt_195.2 2 rfl ?_
                    refine px_PW.hp (h' := ([], px_MH Z (va_up (va_up (va_up F 11 (upd (F 11) k bits)) 12 (upd (F 12) k n)) 13 (zz_pl (fun _ => 0) (F 13) (24 * k) 0)))) (by rw [zz_pl_0]; exact congrArg (fun z => ([], px_MH Z z)) (px_up_id (va_up (va_up F 11 (upd (F 11) k bits)) 12 (upd (F 12) k n)) 13).symm) ?_
                    refine m_sheet_loop hk 24 0 (by omega) ?_
                    refine px_PW.steps kt_195.2 1 rfl ?_
                    refine px_PW.ret kt_195.2 rfl rfl ?_
                    have E : s_msheet Z F k bits n = (1, Z, (va_up (va_up (va_up F 11 (upd (F 11) k bits)) 12 (upd (F 12) k n)) 13 (zz_pl (fun _ => 0) (F 13) (24 * k) 24))) := (if_neg c1).trans ((if_neg c12).trans ((if_pos c23).trans ((if_neg c24).trans ((if_pos c29).trans ((if_neg c30).trans ((if_pos c32).trans (if_neg c33)))))))
                    rw [E]
                    exact ⟨rfl, _, _, px_sm.rf, rfl⟩
                  · have c33 : bits = 0 := of_decide_eq_true (px_nf c33)
                    refine px_PW.steps kt_195.2 2 rfl ?_
                    refine ms_12 kt_195.2 rfl (n := k) rfl hk ?_
                    refine px_PW.steps kt_195.2 2 rfl ?_
                    refine px_PW.hp (h' := ([], px_MH Z (va_up (va_up (va_up F 11 (upd (F 11) k bits)) 12 (upd (F 12) k 0)) 13 (zz_pl (fun _ => 0) (F 13) (24 * k) 0)))) (by rw [zz_pl_0]; exact congrArg (fun z => ([], px_MH Z z)) (px_up_id (va_up (va_up F 11 (upd (F 11) k bits)) 12 (upd (F 12) k 0)) 13).symm) ?_
                    refine m_sheet_loop hk 24 0 (by omega) ?_
                    refine px_PW.steps kt_195.2 1 rfl ?_
                    refine px_PW.ret kt_195.2 rfl rfl ?_
                    have E : s_msheet Z F k bits n = (1, Z, (va_up (va_up (va_up F 11 (upd (F 11) k bits)) 12 (upd (F 12) k 0)) 13 (zz_pl (fun _ => 0) (F 13) (24 * k) 24))) := (if_neg c1).trans ((if_neg c12).trans ((if_pos c23).trans ((if_neg c24).trans ((if_pos c29).trans ((if_neg c30).trans ((if_pos c32).trans (if_pos c33)))))))
                    rw [E]
                    exact ⟨rfl, _, _, px_sm.rf, rfl⟩
                · have c32 : ¬ (n ≤ 24) := of_decide_eq_false c32
                  refine px_PW.steps kt_195.2 2 rfl ?_
                  refine px_PW.callV kt_195.2 rfl rfl rfl rfl (mm_error 1 (by decide)) (by decide) (fun v h1 q => ?_)
                  obtain ⟨rfl, rfl⟩ := q
                  refine px_PW.ret kt_195.2 rfl rfl ?_
                  have E : s_msheet Z F k bits n = ((-1000000000 - 1), Z, F) := (if_neg c1).trans ((if_neg c12).trans ((if_pos c23).trans ((if_neg c24).trans ((if_pos c29).trans ((if_neg c30).trans (if_neg c32))))))
                  rw [E]
                  exact ⟨rfl, _, _, px_sm.err, rfl⟩
            · have c29 : ¬ (0 ≤ n) := of_decide_eq_false c29
              refine px_PW.steps kt_195.2 2 rfl ?_
              refine px_PW.callV kt_195.2 rfl rfl rfl rfl (mm_error 3 (by decide)) (by decide) (fun v h1 q => ?_)
              obtain ⟨rfl, rfl⟩ := q
              refine px_PW.ret kt_195.2 rfl rfl ?_
              have E : s_msheet Z F k bits n = ((-1000000000 - 3), Z, F) := (if_neg c1).trans ((if_neg c12).trans ((if_pos c23).trans ((if_neg c24).trans (if_neg c29))))
              rw [E]
              exact ⟨rfl, _, _, px_sm.err, rfl⟩
        · have c23 : ¬ (bits = 16) := of_decide_eq_false c23
          refine px_PW.steps kt_195.2 3 rfl ?_
          refine px_PW.br (fun c34 => ?_) (fun c34 => ?_)
          · have c34 : bits = 32 := of_decide_eq_true c34
            refine px_PW.steps kt_195.2 2 rfl ?_
            refine px_PW.br (fun c35 => ?_) (fun c35 => ?_)
            · have c35 : bits = 0 := of_decide_eq_true c35
              refine px_PW.steps kt_195.2 2 rfl ?_
              refine px_PW.br (fun c36 => ?_) (fun c36 => ?_)
              · have c36 : bits = 0 := of_decide_eq_true c36
                refine px_PW.steps kt_195.2 4 rfl ?_
                refine ms_11 kt_195.2 rfl (n := k) rfl hk ?_
                refine px_PW.steps kt_195.2 5 rfl ?_
                refine px_PW.br (fun c37 => ?_) (fun c37 => ?_)
                · have c37 : ¬ (bits = 0) := of_decide_eq_false (px_nt c37)
                  refine px_PW.steps kt_195.2 1 rfl ?_
                  refine ms_12 kt_195.2 rfl (n := k) rfl hk ?_
                  refine px_PW.steps kt_195.2 2 rfl ?_
                  refine px_PW.hp (h' := ([], px_MH Z (va_up (va_up (va_up F 11 (upd (F 11) k bits)) 12 (upd (F 12) k n)) 13 (zz_pl (fun _ => 0) (F 13) (24 * k) 0)))) (by rw [zz_pl_0]; exact congrArg (fun z => ([], px_MH Z z)) (px_up_id (va_up (va_up F 11 (upd (F 11) k bits)) 12 (upd (F 12) k n)) 13).symm) ?_
                  refine m_sheet_loop hk 24 0 (by omega) ?_
                  refine px_PW.steps kt_195.2 1 rfl ?_
                  refine px_PW.ret kt_195.2 rfl rfl ?_
                  have E : s_msheet Z F k bits n = (1, Z, (va_up (va_up (va_up F 11 (upd (F 11) k bits)) 12 (upd (F 12) k n)) 13 (zz_pl (fun _ => 0) (F 13) (24 * k) 24))) := (if_neg c1).trans ((if_neg c12).trans ((if_neg c23).trans ((if_pos c34).trans ((if_pos c35).trans ((if_pos c36).trans (if_neg c37))))))
                  rw [E]
                  exact ⟨rfl, _, _, px_sm.rf, rfl⟩
                · have c37 : bits = 0 := of_decide_eq_true (px_nf c37)
                  refine px_PW.steps kt_195.2 2 rfl ?_
                  refine ms_12 kt_195.2 rfl (n := k) rfl hk ?_
                  refine px_PW.steps kt_195.2 2 rfl ?_
                  refine px_PW.hp (h' := ([], px_MH Z (va_up (va_up (va_up F 11 (upd (F 11) k bits)) 12 (upd (F 12) k 0)) 13 (zz_pl (fun _ => 0) (F 13) (24 * k) 0)))) (by rw [zz_pl_0]; exact congrArg (fun z => ([], px_MH Z z)) (px_up_id (va_up (va_up F 11 (upd (F 11) k bits)) 12 (upd (F 12) k 0)) 13).symm) ?_
                  refine m_sheet_loop hk 24 0 (by omega) ?_
                  refine px_PW.steps kt_195.2 1 rfl ?_
                  refine px_PW.ret kt_195.2 rfl rfl ?_
                  have E : s_msheet Z F k bits n = (1, Z, (va_up (va_up (va_up F 11 (upd (F 11) k bits)) 12 (upd (F 12) k 0)) 13 (zz_pl (fun _ => 0) (F 13) (24 * k) 24))) := (if_neg c1).trans ((if_neg c12).trans ((if_neg c23).trans ((if_pos c34).trans ((if_pos c35).trans ((if_pos c36).trans (if_pos c37))))))
                  rw [E]
                  exact ⟨rfl, _, _, px_sm.rf, rfl⟩
              · have c36 : ¬ (bits = 0) := of_decide_eq_false c36
                refine px_PW.steps kt_195.2 3 rfl ?_
                refine px_PW.br (fun c38 => ?_) (fun c38 => ?_)
                · have c38 : n ≤ 24 := of_decide_eq_true c38
                  refine px_PW.steps kt_195.2 4 rfl ?_
                  refine ms_11 kt_195.2 rfl (n := k) rfl hk ?_
                  refine px_PW.steps kt_195.2 5 rfl ?_
                  refine px_PW.br (fun c39 => ?_) (fun c39 => ?_)
                  · have c39 : ¬ (bits = 0) := of_decide_eq_false (px_nt c39)
                    refine px_PW.steps kt_195.2 1 rfl ?_
                    refine ms_12 kt_195.2 rfl (n := k) rfl hk ?_
                    refine px_PW.steps kt_195.2 2 rfl ?_
                    refine px_PW.hp (h' := ([], px_MH Z (va_up (va_up (va_up F 11 (upd (F 11) k bits)) 12 (upd (F 12) k n)) 13 (zz_pl (fun _ => 0) (F 13) (24 * k) 0)))) (by rw [zz_pl_0]; exact congrArg (fun z => ([], px_MH Z z)) (px_up_id (va_up (va_up F 11 (upd (F 11) k bits)) 12 (upd (F 12) k n)) 13).symm) ?_
                    refine m_sheet_loop hk 24 0 (by omega) ?_
                    refine px_PW.steps kt_195.2 1 rfl ?_
                    refine px_PW.ret kt_195.2 rfl rfl ?_
                    have E : s_msheet Z F k bits n = (1, Z, (va_up (va_up (va_up F 11 (upd (F 11) k bits)) 12 (upd (F 12) k n)) 13 (zz_pl (fun _ => 0) (F 13) (24 * k) 24))) := (if_neg c1).trans ((if_neg c12).trans ((if_neg c23).trans ((if_pos c34).trans ((if_pos c35).trans ((if_neg c36).trans ((if_pos c38).trans (if_neg c39)))))))
                    rw [E]
                    exact ⟨rfl, _, _, px_sm.rf, rfl⟩
                  · have c39 : bits = 0 := of_decide_eq_true (px_nf c39)
                    refine px_PW.steps kt_195.2 2 rfl ?_
                    refine ms_12 kt_195.2 rfl (n := k) rfl hk ?_
                    refine px_PW.steps kt_195.2 2 rfl ?_
                    refine px_PW.hp (h' := ([], px_MH Z (va_up (va_up (va_up F 11 (upd (F 11) k bits)) 12 (upd (F 12) k 0)) 13 (zz_pl (fun _ => 0) (F 13) (24 * k) 0)))) (by rw [zz_pl_0]; exact congrArg (fun z => ([], px_MH Z z)) (px_up_id (va_up (va_up F 11 (upd (F 11) k bits)) 12 (upd (F 12) k 0)) 13).symm) ?_
                    refine m_sheet_loop hk 24 0 (by omega) ?_
                    refine px_PW.steps kt_195.2 1 rfl ?_
                    refine px_PW.ret kt_195.2 rfl rfl ?_
                    have E : s_msheet Z F k bits n = (1, Z, (va_up (va_up (va_up F 11 (upd (F 11) k bits)) 12 (upd (F 12) k 0)) 13 (zz_pl (fun _ => 0) (F 13) (24 * k) 24))) := (if_neg c1).trans ((if_neg c12).trans ((if_neg c23).trans ((if_pos c34).trans ((if_pos c35).trans ((if_neg c36).trans ((if_pos c38).trans (if_pos c39)))))))
                    rw [E]
                    exact ⟨rfl, _, _, px_sm.rf, rfl⟩
                · have c38 : ¬ (n ≤ 24) := of_decide_eq_false c38
                  refine px_PW.steps kt_195.2 2 rfl ?_
                  refine px_PW.callV kt_195.2 rfl rfl rfl rfl (mm_error 1 (by decide)) (by decide) (fun v h1 q => ?_)
                  obtain ⟨rfl, rfl⟩ := q
                  refine px_PW.ret kt_195.2 rfl rfl ?_
                  have E : s_msheet Z F k bits n = ((-1000000000 - 1), Z, F) := (if_neg c1).trans ((if_neg c12).trans ((if_neg c23).trans ((if_pos c34).trans ((if_pos c35).trans ((if_neg c36).trans (if_neg c38))))))
                  rw [E]
                  exact ⟨rfl, _, _, px_sm.err, rfl⟩
            · have c35 : ¬ (bits = 0) := of_decide_eq_false c35
              refine px_PW.steps kt_195.2 2 rfl ?_
              refine px_PW.br (fun c40 => ?_) (fun c40 => ?_)
              · have c40 : 0 ≤ n := of_decide_eq_true c40
                refine px_PW.steps kt_195.2 2 rfl ?_
                refine px_PW.br (fun c41 => ?_) (fun c41 => ?_)
                · have c41 : bits = 0 := of_decide_eq_true c41
                  refine px_PW.steps kt_195.2 4 rfl ?_
                  refine ms_11 kt_195.2 rfl (n := k) rfl hk ?_
                  refine px_PW.steps kt_195.2 5 rfl ?_
                  refine px_PW.br (fun c42 => ?_) (fun c42 => ?_)
                  · have c42 : ¬ (bits = 0) := of_decide_eq_false (px_nt c42)
                    refine px_PW.steps kt_195.2 1 rfl ?_
                    refine ms_12 kt_195.2 rfl (n := k) rfl hk ?_
                    refine px_PW.steps kt_195.2 2 rfl ?_
                    refine px_PW.hp (h' := ([], px_MH Z (va_up (va_up (va_up F 11 (upd (F 11) k bits)) 12 (upd (F 12) k n)) 13 (zz_pl (fun _ => 0) (F 13) (24 * k) 0)))) (by rw [zz_pl_0]; exact congrArg (fun z => ([], px_MH Z z)) (px_up_id (va_up (va_up F 11 (upd (F 11) k bits)) 12 (upd (F 12) k n)) 13).symm) ?_
                    refine m_sheet_loop hk 24 0 (by omega) ?_
                    refine px_PW.steps kt_195.2 1 rfl ?_
                    refine px_PW.ret kt_195.2 rfl rfl ?_
                    have E : s_msheet Z F k bits n = (1, Z, (va_up (va_up (va_up F 11 (upd (F 11) k bits)) 12 (upd (F 12) k n)) 13 (zz_pl (fun _ => 0) (F 13) (24 * k) 24))) := (if_neg c1).trans ((if_neg c12).trans ((if_neg c23).trans ((if_pos c34).trans ((if_neg c35).trans ((if_pos c40).trans ((if_pos c41).trans (if_neg c42)))))))
                    rw [E]
                    exact ⟨rfl, _, _, px_sm.rf, rfl⟩
                  · have c42 : bits = 0 := of_decide_eq_true (px_nf c42)
                    refine px_PW.steps kt_195.2 2 rfl ?_
                    refine ms_12 kt_195.2 rfl (n := k) rfl hk ?_
                    refine px_PW.steps kt_195.2 2 rfl ?_
                    refine px_PW.hp (h' := ([], px_MH Z (va_up (va_up (va_up F 11 (upd (F 11) k bits)) 12 (upd (F 12) k 0)) 13 (zz_pl (fun _ => 0) (F 13) (24 * k) 0)))) (by rw [zz_pl_0]; exact congrArg (fun z => ([], px_MH Z z)) (px_up_id (va_up (va_up F 11 (upd (F 11) k bits)) 12 (upd (F 12) k 0)) 13).symm) ?_
                    refine m_sheet_loop hk 24 0 (by omega) ?_
                    refine px_PW.steps kt_195.2 1 rfl ?_
                    refine px_PW.ret kt_195.2 rfl rfl ?_
                    have E : s_msheet Z F k bits n = (1, Z, (va_up (va_up (va_up F 11 (upd (F 11) k bits)) 12 (upd (F 12) k 0)) 13 (zz_pl (fun _ => 0) (F 13) (24 * k) 24))) := (if_neg c1).trans ((if_neg c12).trans ((if_neg c23).trans ((if_pos c34).trans ((if_neg c35).trans ((if_pos c40).trans ((if_pos c41).trans (if_pos c42)))))))
                    rw [E]
                    exact ⟨rfl, _, _, px_sm.rf, rfl⟩
                · have c41 : ¬ (bits = 0) := of_decide_eq_false c41
                  refine px_PW.steps kt_195.2 3 rfl ?_
                  refine px_PW.br (fun c43 => ?_) (fun c43 => ?_)
                  · have c43 : n ≤ 24 := of_decide_eq_true c43
                    refine px_PW.steps kt_195.2 4 rfl ?_
                    refine ms_11 kt_195.2 rfl (n := k) rfl hk ?_
                    refine px_PW.steps kt_195.2 5 rfl ?_
                    refine px_PW.br (fun c44 => ?_) (fun c44 => ?_)
                    · have c44 : ¬ (bits = 0) := of_decide_eq_false (px_nt c44)
                      refine px_PW.steps kt_195.2 1 rfl ?_
                      refine ms_12 kt_195.2 rfl (n := k) rfl hk ?_
                      refine px_PW.steps kt_195.2 2 rfl ?_
                      refine px_PW.hp (h' := ([], px_MH Z (va_up (va_up (va_up F 11 (upd (F 11) k bits)) 12 (upd (F 12) k n)) 13 (zz_pl (fun _ => 0) (F 13) (24 * k) 0)))) (by rw [zz_pl_0]; exact congrArg (fun z => ([], px_MH Z z)) (px_up_id (va_up (va_up F 11 (upd (F 11) k bits)) 12 (upd (F 12) k n)) 13).symm) ?_
                      refine m_sheet_loop hk 24 0 (by omega) ?_
                      refine px_PW.steps kt_195.2 1 rfl ?_
                      refine px_PW.ret kt_195.2 rfl rfl ?_
                      have E : s_msheet Z F k bits n = (1, Z, (va_up (va_up (va_up F 11 (upd (F 11) k bits)) 12 (upd (F 12) k n)) 13 (zz_pl (fun _ => 0) (F 13) (24 * k) 24))) := (if_neg c1).trans ((if_neg c12).trans ((if_neg c23).trans ((if_pos c34).trans ((if_neg c35).trans ((if_pos c40).trans ((if_neg c41).trans ((if_pos c43).trans (if_neg c44))))))))
                      rw [E]
                      exact ⟨rfl, _, _, px_sm.rf, rfl⟩
                    · have c44 : bits = 0 := of_decide_eq_true (px_nf c44)
                      refine px_PW.steps kt_195.2 2 rfl ?_
                      refine ms_12 kt_195.2 rfl (n := k) rfl hk ?_
                      refine px_PW.steps kt_195.2 2 rfl ?_
                      refine px_PW.hp (h' := ([], px_MH Z (va_up (va_up (va_up F 11 (upd (F 11) k bits)) 12 (upd (F 12) k 0)) 13 (zz_pl (fun _ => 0) (F 13) (24 * k) 0)))) (by rw [zz_pl_0]; exact congrArg (fun z => ([], px_MH Z z)) (px_up_id (va_up (va_up F 11 (upd (F 11) k bits)) 12 (upd (F 12) k 0)) 13).symm) ?_
                      refine m_sheet_loop hk 24 0 (by omega) ?_
                      refine px_PW.steps kt_195.2 1 rfl ?_
                      refine px_PW.ret kt_195.2 rfl rfl ?_
                      have E : s_msheet Z F k bits n = (1, Z, (va_up (va_up (va_up F 11 (upd (F 11) k bits)) 12 (upd (F 12) k 0)) 13 (zz_pl (fun _ => 0) (F 13) (24 * k) 24))) := (if_neg c1).trans ((if_neg c12).trans ((if_neg c23).trans ((if_pos c34).trans ((if_neg c35).trans ((if_pos c40).trans ((if_neg c41).trans ((if_pos c43).trans (if_pos c44))))))))
                      rw [E]
                      exact ⟨rfl, _, _, px_sm.rf, rfl⟩
                  · have c43 : ¬ (n ≤ 24) := of_decide_eq_false c43
                    refine px_PW.steps kt_195.2 2 rfl ?_
                    refine px_PW.callV kt_195.2 rfl rfl rfl rfl (mm_error 1 (by decide)) (by decide) (fun v h1 q => ?_)
                    obtain ⟨rfl, rfl⟩ := q
                    refine px_PW.ret kt_195.2 rfl rfl ?_
                    have E : s_msheet Z F k bits n = ((-1000000000 - 1), Z, F) := (if_neg c1).trans ((if_neg c12).trans ((if_neg c23).trans ((if_pos c34).trans ((if_neg c35).trans ((if_pos c40).trans ((if_neg c41).trans (if_neg c43)))))))
                    rw [E]
                    exact ⟨rfl, _, _, px_sm.err, rfl⟩
              · have c40 : ¬ (0 ≤ n) := of_decide_eq_false c40
                refine px_PW.steps kt_195.2 2 rfl ?_
                refine px_PW.callV kt_195.2 rfl rfl rfl rfl (mm_error 3 (by decide)) (by decide) (fun v h1 q => ?_)
                obtain ⟨rfl, rfl⟩ := q
                refine px_PW.ret kt_195.2 rfl rfl ?_
                have E : s_msheet Z F k bits n = ((-1000000000 - 3), Z, F) := (if_neg c1).trans ((if_neg c12).trans ((if_neg c23).trans ((if_pos c34).trans ((if_neg c35).trans (if_neg c40)))))
                rw [E]
                exact ⟨rfl, _, _, px_sm.err, rfl⟩
          · have c34 : ¬ (bits = 32) := of_decide_eq_false c34
            refine px_PW.steps kt_195.2 2 rfl ?_
            refine px_PW.callV kt_195.2 rfl rfl rfl rfl (mm_error 1 (by decide)) (by decide) (fun v h1 q => ?_)
            obtain ⟨rfl, rfl⟩ := q
            refine px_PW.ret kt_195.2 rfl rfl ?_
            have E : s_msheet Z F k bits n = ((-1000000000 - 1), Z, F) := (if_neg c1).trans ((if_neg c12).trans ((if_neg c23).trans (if_neg c34)))
            rw [E]
            exact ⟨rfl, _, _, px_sm.err, rfl⟩
def s_msheetB (Z : Nat → Int32) (F : Nat → Nat → Int32) (sheet : Int32) (bits : Int32) (n : Int32) : Int32 × (Nat → Int32) × (Nat → Nat → Int32) := ((-1000000000 - 1), Z, F)
theorem kc_msheetB {Z : Nat → Int32} {F : Nat → Nat → Int32}  (sheet : Int32) (bits : Int32) (n : Int32) (hb : sheet < 0 ∨ 4 ≤ sheet) : px_PM 3 195 [.ref 1000, .int sheet, .int bits, .int n] ([], px_MH Z F) (fun r h' => r = some (.int (s_msheetB Z F sheet bits n).1) ∧ ∃ Z' F', px_sm (s_msheetB Z F sheet bits n).2.1 (s_msheetB Z F sheet bits n).2.2 Z' F' ∧ h' = ([], px_MH Z' F')) := by
  refine px_PM.start (nL := 5) (code := pc_195) rfl rfl ?_
  refine px_PW.steps kt_195.2 1 rfl ?_
  refine px_PW.callS kt_195.2 rfl rfl rfl (mm_isSheet _ _) (by decide) (fun v h1 q => ?_)
  obtain ⟨rfl, rfl⟩ := q
  refine px_PW.steps kt_195.2 1 rfl ?_
  refine px_PW.br (fun c0 => ?_) (fun c0 => ?_)
  · have c0 : ¬ (0 ≤ sheet ∧ sheet ≤ 3) := px_b1z (of_decide_eq_true c0)
    refine px_PW.steps kt_195.2 2 rfl ?_
    refine px_PW.callV kt_195.2 rfl rfl rfl rfl (mm_error 1 (by decide)) (by decide) (fun v h1 q => ?_)
    obtain ⟨rfl, rfl⟩ := q
    refine px_PW.ret kt_195.2 rfl rfl ?_
    have E : s_msheetB Z F sheet bits n = ((-1000000000 - 1), Z, F) := rfl
    rw [E]
    exact ⟨rfl, _, _, px_sm.err, rfl⟩
  · have c0 : 0 ≤ sheet ∧ sheet ≤ 3 := px_b1n (of_decide_eq_false c0)
    exact absurd c0 (px_sh_no hb)
