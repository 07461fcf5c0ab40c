def i_held (v lo hi : Int32) : Int32 := if lo ≤ v then (if v ≤ hi then v else hi) else lo
theorem px_ix {t w : Int32} {n k : Nat} (h : t = nI n) (hw : w = nI k) : 12 + 4 * t + w = nI (12 + 4 * n + k) := by
  subst h hw
  show Int32.ofNat 12 + Int32.ofNat 4 * Int32.ofNat n + Int32.ofNat k = Int32.ofNat (12 + 4 * n + k)
  rw [Int32.ofNat_add, Int32.ofNat_add, Int32.ofNat_mul]
theorem px_thN {x t : Int32} {M : Nat} (hM : x = nI M) (hM6 : M ≤ 6) (c : 0 ≤ t ∧ t ≤ x - 1) : t = nI t.toNatClampNeg ∧ t.toNatClampNeg < M ∧ t.toNatClampNeg < 6 := by
  obtain ⟨n, hn, rfl⟩ := nI_of (Int32.not_lt.mpr c.1)
  have c2 := c.2
  rw [nI_clamp (by omega)]
  subst hM
  cases M with
  | zero =>
    have h1 : nI 0 - 1 = (-1 : Int32) := by decide
    rw [h1, Int32.le_iff_toInt_le, nI_toInt (by omega)] at c2
    have h2 : (-1 : Int32).toInt = -1 := by decide
    omega
  | succ M =>
    rw [nI_pred, nI_leI (by omega) (by omega)] at c2
    exact ⟨rfl, by omega, by omega⟩
theorem mm_error {Z : Nat → Int32} {F : Nat → Nat → Int32} (k : Nat) (hk : k < 7)  : px_PM 1 116 [.ref 1000, .int (Int32.ofNat k)] ([], px_MH Z F) (fun r h' => r = some (.int (-1000000000 - Int32.ofNat k)) ∧ h' = ([], px_MH Z (va_up F 2 (upd (F 2) k (F 2 k + 1))))) := by
  refine px_PM.start (nL := 2) (code := pc_116) rfl rfl ?_
  refine px_PW.steps kt_116.2 4 rfl ?_
  refine px_PW.aldN kt_116.2 rfl rfl (n := k) rfl (by omega) ?_
  refine px_PW.steps kt_116.2 2 rfl ?_
  refine ms_2 kt_116.2 rfl (n := k) rfl (by omega) ?_
  refine px_PW.steps kt_116.2 3 rfl ?_
  refine px_PW.ret kt_116.2 rfl rfl ?_
  exact ⟨rfl, rfl⟩
theorem mm_held   (v lo hi : Int32) (h : px_H) : px_PM 1 118 [.int v, .int lo, .int hi] h (fun r h' => r = some (.int (i_held v lo hi)) ∧ h' = h) := by
  refine px_PM.start (nL := 3) (code := pc_118) rfl rfl ?_
  refine px_PW.steps kt_118.2 3 rfl ?_
  refine px_PW.br (fun c0 => ?_) (fun c0 => ?_)
  · have c0 : lo ≤ v := of_decide_eq_true c0
    refine px_PW.steps kt_118.2 3 rfl ?_
    refine px_PW.br (fun c1 => ?_) (fun c1 => ?_)
    · have c1 : v ≤ hi := of_decide_eq_true c1
      refine px_PW.steps kt_118.2 1 rfl ?_
      refine px_PW.ret kt_118.2 rfl rfl ?_
      exact ⟨congrArg (fun z => some (Value.int z)) (show i_held v lo hi = _ from (if_pos c0).trans (if_pos c1)).symm, rfl⟩
    · have c1 : ¬ (v ≤ hi) := of_decide_eq_false c1
      refine px_PW.steps kt_118.2 2 rfl ?_
      refine px_PW.ret kt_118.2 rfl rfl ?_
      exact ⟨congrArg (fun z => some (Value.int z)) (show i_held v lo hi = _ from (if_pos c0).trans (if_neg c1)).symm, rfl⟩
  · have c0 : ¬ (lo ≤ v) := of_decide_eq_false c0
    refine px_PW.steps kt_118.2 2 rfl ?_
    refine px_PW.ret kt_118.2 rfl rfl ?_
    exact ⟨congrArg (fun z => some (Value.int z)) (show i_held v lo hi = _ from if_neg c0).symm, rfl⟩
theorem mm_isThing {Z : Nat → Int32} {F : Nat → Nat → Int32}  (t : Int32) : px_PM 2 120 [.ref 1000, .int t] ([], px_MH Z F) (fun r h' => r = some (.int (if 0 ≤ t ∧ t ≤ F 0 10 - 1 then 1 else 0)) ∧ h' = ([], px_MH Z F)) := by
  refine px_PM.start (nL := 2) (code := pc_120) rfl rfl ?_
  refine px_PW.steps kt_120.2 5 rfl ?_
  refine px_PW.steps kt_120.2 1 rfl ?_
  refine px_PW.steps kt_120.2 2 rfl ?_
  refine px_PW.callS kt_120.2 rfl rfl rfl (cm_117 _ _ _ _) (by decide) (fun v h1 q => ?_)
  obtain ⟨rfl, rfl⟩ := q
  refine px_PW.retB kt_120.2 rfl px_zb1 ?_
  exact ⟨rfl, rfl⟩
theorem mm_isRow {Z : Nat → Int32} {F : Nat → Nat → Int32}  (t : Int32) : px_PM 2 121 [.ref 1000, .int t] ([], px_MH Z F) (fun r h' => r = some (.int (if 0 ≤ t ∧ t ≤ F 0 4 - 1 then 1 else 0)) ∧ h' = ([], px_MH Z F)) := by
  refine px_PM.start (nL := 2) (code := pc_121) rfl rfl ?_
  refine px_PW.steps kt_121.2 5 rfl ?_
  refine px_PW.steps kt_121.2 1 rfl ?_
  refine px_PW.steps kt_121.2 2 rfl ?_
  refine px_PW.callS kt_121.2 rfl rfl rfl (cm_117 _ _ _ _) (by decide) (fun v h1 q => ?_)
  obtain ⟨rfl, rfl⟩ := q
  refine px_PW.retB kt_121.2 rfl px_zb1 ?_
  exact ⟨rfl, rfl⟩
theorem mm_isKind   (t : Int32) (h : px_H) : px_PM 2 161 [.int t] h (fun r h' => r = some (.int (if 0 ≤ t ∧ t ≤ 69 then 1 else 0)) ∧ h' = h) := by
  refine px_PM.start (nL := 1) (code := pc_161) rfl rfl ?_
  refine px_PW.steps kt_161.2 3 rfl ?_
  refine px_PW.callS kt_161.2 rfl rfl rfl (cm_117 _ _ _ _) (by decide) (fun v h1 q => ?_)
  obtain ⟨rfl, rfl⟩ := q
  refine px_PW.retB kt_161.2 rfl px_zb1 ?_
  exact ⟨rfl, rfl⟩
theorem mm_isSheet   (t : Int32) (h : px_H) : px_PM 2 194 [.int t] h (fun r h' => r = some (.int (if 0 ≤ t ∧ t ≤ 3 then 1 else 0)) ∧ h' = h) := by
  refine px_PM.start (nL := 1) (code := pc_194) rfl rfl ?_
  refine px_PW.steps kt_194.2 3 rfl ?_
  refine px_PW.callS kt_194.2 rfl rfl rfl (cm_117 _ _ _ _) (by decide) (fun v h1 q => ?_)
  obtain ⟨rfl, rfl⟩ := q
  refine px_PW.retB kt_194.2 rfl px_zb1 ?_
  exact ⟨rfl, rfl⟩
theorem mm_its {Z : Nat → Int32} {F : Nat → Nat → Int32} {n k : Nat} {t x : Int32} (ht : t = nI n) (hx : x = nI k) (hn : n < 6) (hk : k < 4) : px_PM 1 122 [.ref 1000, .int t, .int x] ([], px_MH Z F) (fun r h' => r = some (.int (F 0 (12 + 4 * n + k))) ∧ h' = ([], px_MH Z F)) := by
  refine px_PM.start (nL := 3) (code := pc_122) rfl rfl ?_
  refine px_PW.steps kt_122.2 9 rfl ?_
  refine px_PW.aldN kt_122.2 rfl rfl (n := 12 + 4 * n + k) (px_ix ht hx) (by omega) ?_
  refine px_PW.ret kt_122.2 rfl rfl ?_
  exact ⟨rfl, rfl⟩
theorem mm_lays1 {Z : Nat → Int32} {F : Nat → Nat → Int32} {n k : Nat} {t x : Int32} (ht : t = nI n) (hx : x = nI k) (hn : n < 6) (hk : k < 4) (v : Int32) : px_PM 1 123 [.ref 1000, .int t, .int x, .int v] ([], px_MH Z F) (fun r h' => r = none ∧ h' = ([], px_MH Z (va_up F 0 (upd (F 0) (12 + 4 * n + k) v)))) := by
  refine px_PM.start (nL := 4) (code := pc_123) rfl rfl ?_
  refine px_PW.steps kt_123.2 10 rfl ?_
  refine ms_0 kt_123.2 rfl (n := 12 + 4 * n + k) (px_ix ht hx) (by omega) ?_
  refine px_PW.ret kt_123.2 rfl rfl ?_
  exact ⟨rfl, rfl⟩
theorem mm_change1 {Z : Nat → Int32} {F : Nat → Nat → Int32} {n : Nat} {t : Int32} (ht : t = nI n) (hn : n < 370) (v : Int32) : px_PM 1 124 [.ref 1000, .int t, .int v] ([], px_MH Z F) (fun r h' => r = some (.int (F 0 n)) ∧ h' = ([], px_MH Z (va_up F 0 (upd (F 0) n v)))) := by
  refine px_PM.start (nL := 4) (code := pc_124) rfl rfl ?_
  refine px_PW.steps kt_124.2 3 rfl ?_
  refine px_PW.aldN kt_124.2 rfl rfl (n := n) ht hn ?_
  refine px_PW.steps kt_124.2 5 rfl ?_
  refine ms_0 kt_124.2 rfl (n := n) ht hn ?_
  refine px_PW.steps kt_124.2 1 rfl ?_
  refine px_PW.ret kt_124.2 rfl rfl ?_
  exact ⟨rfl, rfl⟩
theorem px_in5 {i : Int32} {n : Nat} (hn : n < 1000) (c : 0 ≤ i ∧ i ≤ nI n) : i = nI i.toNatClampNeg ∧ i.toNatClampNeg < n + 1 := by
  obtain ⟨k, hk, rfl⟩ := nI_of (Int32.not_lt.mpr c.1)
  have c2 := c.2
  rw [nI_leI (by omega) (by omega)] at c2
  rw [nI_clamp (by omega)]
  exact ⟨rfl, by omega⟩
def s_mwall (Z : Nat → Int32) (F : Nat → Nat → Int32) (what : Int32) (v : Int32) : Int32 × (Nat → Int32) × (Nat → Nat → Int32) := (if 0 ≤ what ∧ what ≤ 5 then (if ((F 3) what.toNatClampNeg) ≤ v ∧ v ≤ ((F 4) what.toNatClampNeg) then (if what = 1 then (((upd (F 0) 6 v) (what.toNatClampNeg)), Z, (va_up (va_up F 0 (upd (F 0) 6 v)) 0 (upd (upd (F 0) 6 v) (what.toNatClampNeg) v))) else (((upd (F 0) 6 ((F 0) 6)) (what.toNatClampNeg)), Z, (va_up (va_up F 0 (upd (F 0) 6 ((F 0) 6))) 0 (upd (upd (F 0) 6 ((F 0) 6)) (what.toNatClampNeg) v)))) else ((-1000000000 - 1), Z, F)) else ((-1000000000 - 1), Z, F))
theorem kc_mwall {Z : Nat → Int32} {F : Nat → Nat → Int32}  (what : Int32) (v : Int32) : px_PM 2 158 [.ref 1000, .int what, .int v] ([], px_MH Z F) (fun r h' => r = some (.int (s_mwall Z F what v).1) ∧ ∃ Z' F', px_sm (s_mwall Z F what v).2.1 (s_mwall Z F what v).2.2 Z' F' ∧ h' = ([], px_MH Z' F')) := by
  refine px_PM.start (nL := 3) (code := pc_158) rfl rfl ?_
  refine px_PW.steps kt_158.2 3 rfl ?_
  refine px_PW.callS kt_158.2 rfl rfl rfl (cm_117 _ _ _ _) (by decide) (fun v h1 q => ?_)
  obtain ⟨rfl, rfl⟩ := q
  refine px_PW.steps kt_158.2 1 rfl ?_
  refine px_PW.br (fun c0 => ?_) (fun c0 => ?_)
  · have c0 : ¬ (0 ≤ what ∧ what ≤ 5) := px_b1z (of_decide_eq_true c0)
    refine px_PW.steps kt_158.2 2 rfl ?_
    refine px_PW.callV kt_158.2 rfl rfl rfl rfl (mm_error 1 (by decide)) (by decide) (fun v h1 q => ?_)
    obtain ⟨rfl, rfl⟩ := q
    refine px_PW.ret kt_158.2 rfl rfl ?_
    have E : s_mwall Z F what v = ((-1000000000 - 1), Z, F) := if_neg c0
    rw [E]
    exact ⟨rfl, _, _, px_sm.err, rfl⟩
  · have c0 : 0 ≤ what ∧ what ≤ 5 := px_b1n (of_decide_eq_false c0)
    refine px_PW.steps kt_158.2 4 rfl ?_
    refine px_PW.aldN kt_158.2 rfl rfl (n := what.toNatClampNeg) (px_in5 (n := 5) (by decide) c0).1 (Nat.lt_of_lt_of_le (px_in5 (n := 5) (by decide) c0).2 (by decide)) ?_
    refine px_PW.steps kt_158.2 3 rfl ?_
    refine px_PW.aldN kt_158.2 rfl rfl (n := what.toNatClampNeg) (px_in5 (n := 5) (by decide) c0).1 (Nat.lt_of_lt_of_le (px_in5 (n := 5) (by decide) c0).2 (by decide)) ?_
    refine px_PW.callS kt_158.2 rfl rfl rfl (cm_117 _ _ _ _) (by decide) (fun v h1 q => ?_)
    obtain ⟨rfl, rfl⟩ := q
    refine px_PW.steps kt_158.2 1 rfl ?_
    refine px_PW.br (fun c1 => ?_) (fun c1 => ?_)
    · have c1 : ((F 3) what.toNatClampNeg) ≤ v ∧ v ≤ ((F 4) what.toNatClampNeg) := px_b1n (of_decide_eq_false (px_nt c1))
      refine px_PW.steps kt_158.2 6 rfl ?_
      refine px_PW.br (fun c2 => ?_) (fun c2 => ?_)
      · have c2 : ¬ (what = 1) := of_decide_eq_false (px_nt c2)
        refine px_PW.steps kt_158.2 3 rfl ?_
        refine px_PW.steps kt_158.2 1 rfl ?_
        refine ms_0 kt_158.2 rfl (n := 6) rfl (by decide) ?_
        refine px_PW.steps kt_158.2 3 rfl ?_
        refine px_PW.callV kt_158.2 rfl rfl rfl rfl (mm_change1 (n := what.toNatClampNeg) (px_in5 (n := 5) (by decide) c0).1 (Nat.lt_of_lt_of_le (px_in5 (n := 5) (by decide) c0).2 (by decide)) _) (by decide) (fun v h1 q => ?_)
        obtain ⟨rfl, rfl⟩ := q
        refine px_PW.ret kt_158.2 rfl rfl ?_
        have E : s_mwall Z F what v = (((upd (F 0) 6 ((F 0) 6)) (what.toNatClampNeg)), Z, (va_up (va_up F 0 (upd (F 0) 6 ((F 0) 6))) 0 (upd (upd (F 0) 6 ((F 0) 6)) (what.toNatClampNeg) v))) := (if_pos c0).trans ((if_pos c1).trans (if_neg c2))
        rw [E]
        exact ⟨rfl, _, _, px_sm.rf, rfl⟩
      · have c2 : what = 1 := of_decide_eq_true (px_nf c2)
        refine px_PW.steps kt_158.2 2 rfl ?_
        refine ms_0 kt_158.2 rfl (n := 6) rfl (by decide) ?_
        refine px_PW.steps kt_158.2 3 rfl ?_
        refine px_PW.callV kt_158.2 rfl rfl rfl rfl (mm_change1 (n := what.toNatClampNeg) (px_in5 (n := 5) (by decide) c0).1 (Nat.lt_of_lt_of_le (px_in5 (n := 5) (by decide) c0).2 (by decide)) _) (by decide) (fun v h1 q => ?_)
        obtain ⟨rfl, rfl⟩ := q
        refine px_PW.ret kt_158.2 rfl rfl ?_
        have E : s_mwall Z F what v = (((upd (F 0) 6 v) (what.toNatClampNeg)), Z, (va_up (va_up F 0 (upd (F 0) 6 v)) 0 (upd (upd (F 0) 6 v) (what.toNatClampNeg) v))) := (if_pos c0).trans ((if_pos c1).trans (if_pos c2))
        rw [E]
        exact ⟨rfl, _, _, px_sm.rf, rfl⟩
    · have c1 : ¬ (((F 3) what.toNatClampNeg) ≤ v ∧ v ≤ ((F 4) what.toNatClampNeg)) := px_b1z (of_decide_eq_true (px_nf c1))
      refine px_PW.steps kt_158.2 2 rfl ?_
      refine px_PW.callV kt_158.2 rfl rfl rfl rfl (mm_error 1 (by decide)) (by decide) (fun v h1 q => ?_)
      obtain ⟨rfl, rfl⟩ := q
      refine px_PW.ret kt_158.2 rfl rfl ?_
      have E : s_mwall Z F what v = ((-1000000000 - 1), Z, F) := (if_pos c0).trans (if_neg c1)
      rw [E]
      exact ⟨rfl, _, _, px_sm.err, rfl⟩
def s_mwallIs (Z : Nat → Int32) (F : Nat → Nat → Int32) (what : Int32) : Int32 := (if 0 ≤ what ∧ what ≤ 6 then ((F 0) what.toNatClampNeg) else (-1000000000 - 1))
theorem kc_mwallIs {Z : Nat → Int32} {F : Nat → Nat → Int32}  (what : Int32) : px_PM 2 159 [.ref 1000, .int what] ([], px_MH Z F) (fun r h' => r = some (.int (s_mwallIs Z F what)) ∧ ∃ Z' F', px_sm Z F Z' F' ∧ h' = ([], px_MH Z' F')) := by
  refine px_PM.start (nL := 2) (code := pc_159) rfl rfl ?_
  refine px_PW.steps kt_159.2 3 rfl ?_
  refine px_PW.callS kt_159.2 rfl rfl rfl (cm_117 _ _ _ _) (by decide) (fun v h1 q => ?_)
  obtain ⟨rfl, rfl⟩ := q
  refine px_PW.steps kt_159.2 1 rfl ?_
  refine px_PW.br (fun c0 => ?_) (fun c0 => ?_)
  · have c0 : ¬ (0 ≤ what ∧ what ≤ 6) := px_b1z (of_decide_eq_true c0)
    refine px_PW.steps kt_159.2 2 rfl ?_
    refine px_PW.callV kt_159.2 rfl rfl rfl rfl (mm_error 1 (by decide)) (by decide) (fun v h1 q => ?_)
    obtain ⟨rfl, rfl⟩ := q
    refine px_PW.ret kt_159.2 rfl rfl ?_
    have E : s_mwallIs Z F what = (-1000000000 - 1) := if_neg c0
    rw [E]
    exact ⟨rfl, _, _, px_sm.err, rfl⟩
  · have c0 : 0 ≤ what ∧ what ≤ 6 := px_b1n (of_decide_eq_false c0)
    refine px_PW.steps kt_159.2 3 rfl ?_
    refine px_PW.aldN kt_159.2 rfl rfl (n := what.toNatClampNeg) (px_in5 (n := 6) (by decide) c0).1 (Nat.lt_of_lt_of_le (px_in5 (n := 6) (by decide) c0).2 (by decide)) ?_
    refine px_PW.steps kt_159.2 1 rfl ?_
    refine px_PW.ret kt_159.2 rfl rfl ?_
    have E : s_mwallIs Z F what = ((F 0) what.toNatClampNeg) := if_pos c0
    rw [E]
    exact ⟨rfl, _, _, px_sm.rf, rfl⟩
def s_mbegin (Z : Nat → Int32) (F : Nat → Nat → Int32) (first : Int32) : Int32 × (Nat → Int32) × (Nat → Nat → Int32) := (if 1 ≤ first ∧ first ≤ ((F 0) 1) then (((F 0) (6)), Z, (va_up F 0 (upd (F 0) (6) first))) else ((-1000000000 - 1), Z, F))
theorem kc_mbegin {Z : Nat → Int32} {F : Nat → Nat → Int32}  (first : Int32) : px_PM 2 160 [.ref 1000, .int first] ([], px_MH Z F) (fun r h' => r = some (.int (s_mbegin Z F first).1) ∧ ∃ Z' F', px_sm (s_mbegin Z F first).2.1 (s_mbegin Z F first).2.2 Z' F' ∧ h' = ([], px_MH Z' F')) := by
  refine px_PM.start (nL := 2) (code := pc_160) rfl rfl ?_
  refine px_PW.steps kt_160.2 5 rfl ?_
  refine px_PW.steps kt_160.2 1 rfl ?_
  refine px_PW.callS kt_160.2 rfl rfl rfl (cm_117 _ _ _ _) (by decide) (fun v h1 q => ?_)
  obtain ⟨rfl, rfl⟩ := q
  refine px_PW.steps kt_160.2 1 rfl ?_
  refine px_PW.br (fun c0 => ?_) (fun c0 => ?_)
  · have c0 : ¬ (1 ≤ first ∧ first ≤ ((F 0) 1)) := px_b1z (of_decide_eq_true c0)
    refine px_PW.steps kt_160.2 2 rfl ?_
    refine px_PW.callV kt_160.2 rfl rfl rfl rfl (mm_error 1 (by decide)) (by decide) (fun v h1 q => ?_)
    obtain ⟨rfl, rfl⟩ := q
    refine px_PW.ret kt_160.2 rfl rfl ?_
    have E : s_mbegin Z F first = ((-1000000000 - 1), Z, F) := if_neg c0
    rw [E]
    exact ⟨rfl, _, _, px_sm.err, rfl⟩
  · have c0 : 1 ≤ first ∧ first ≤ ((F 0) 1) := px_b1n (of_decide_eq_false c0)
    refine px_PW.steps kt_160.2 3 rfl ?_
    refine px_PW.callV kt_160.2 rfl rfl rfl rfl (mm_change1 (n := 6) rfl (by decide) _) (by decide) (fun v h1 q => ?_)
    obtain ⟨rfl, rfl⟩ := q
    refine px_PW.steps kt_160.2 1 rfl ?_
    refine px_PW.ret kt_160.2 rfl rfl ?_
    have E : s_mbegin Z F first = (((F 0) (6)), Z, (va_up F 0 (upd (F 0) (6) first))) := if_pos c0
    rw [E]
    exact ⟨rfl, _, _, px_sm.rf, rfl⟩
def s_mthingIs (Z : Nat → Int32) (F : Nat → Nat → Int32) (thing : Int32) (what : Int32) : Int32 := (if 0 ≤ thing ∧ thing ≤ ((F 0) 10) - 1 then (if 0 ≤ what ∧ what ≤ 3 then ((F 0) (12 + 4 * thing.toNatClampNeg + what.toNatClampNeg)) else (-1000000000 - 1)) else (-1000000000 - 1))
theorem kc_mthingIs {Z : Nat → Int32} {F : Nat → Nat → Int32} {M : Nat} (hM : F 0 10 = nI M) (hM6 : M ≤ 6) (thing : Int32) (what : Int32) : px_PM 3 163 [.ref 1000, .int thing, .int what] ([], px_MH Z F) (fun r h' => r = some (.int (s_mthingIs Z F thing what)) ∧ ∃ Z' F', px_sm Z F Z' F' ∧ h' = ([], px_MH Z' F')) := by
  refine px_PM.start (nL := 3) (code := pc_163) rfl rfl ?_
  refine px_PW.steps kt_163.2 2 rfl ?_
  refine px_PW.callV kt_163.2 rfl rfl rfl rfl (mm_isThing _) (by decide) (fun v h1 q => ?_)
  obtain ⟨rfl, rfl⟩ := q
  refine px_PW.steps kt_163.2 1 rfl ?_
  refine px_PW.br (fun c0 => ?_) (fun c0 => ?_)
  · have c0 : ¬ (0 ≤ thing ∧ thing ≤ ((F 0) 10) - 1) := px_b1z (of_decide_eq_true c0)
    refine px_PW.steps kt_163.2 2 rfl ?_
    refine px_PW.callV kt_163.2 rfl rfl rfl rfl (mm_error 1 (by decide)) (by decide) (fun v h1 q => ?_)
    obtain ⟨rfl, rfl⟩ := q
    refine px_PW.ret kt_163.2 rfl rfl ?_
    have E : s_mthingIs Z F thing what = (-1000000000 - 1) := if_neg c0
    rw [E]
    exact ⟨rfl, _, _, px_sm.err, rfl⟩
  · have c0 : 0 ≤ thing ∧ thing ≤ ((F 0) 10) - 1 := px_b1n (of_decide_eq_false c0)
    refine px_PW.steps kt_163.2 3 rfl ?_
    refine px_PW.callS kt_163.2 rfl rfl rfl (cm_117 _ _ _ _) (by decide) (fun v h1 q => ?_)
    obtain ⟨rfl, rfl⟩ := q
    refine px_PW.steps kt_163.2 1 rfl ?_
    refine px_PW.br (fun c1 => ?_) (fun c1 => ?_)
    · have c1 : ¬ (0 ≤ what ∧ what ≤ 3) := px_b1z (of_decide_eq_true c1)
      refine px_PW.steps kt_163.2 2 rfl ?_
      refine px_PW.callV kt_163.2 rfl rfl rfl rfl (mm_error 1 (by decide)) (by decide) (fun v h1 q => ?_)
      obtain ⟨rfl, rfl⟩ := q
      refine px_PW.ret kt_163.2 rfl rfl ?_
      have E : s_mthingIs Z F thing what = (-1000000000 - 1) := (if_pos c0).trans (if_neg c1)
      rw [E]
      exact ⟨rfl, _, _, px_sm.err, rfl⟩
    · have c1 : 0 ≤ what ∧ what ≤ 3 := px_b1n (of_decide_eq_false c1)
      refine px_PW.steps kt_163.2 3 rfl ?_
      refine px_PW.callV kt_163.2 rfl rfl rfl rfl (mm_its (n := thing.toNatClampNeg) (k := what.toNatClampNeg) (px_thN hM hM6 c0).1 (px_in5 (n := 3) (by decide) c1).1 (px_thN hM hM6 c0).2.2 (px_in5 (n := 3) (by decide) c1).2) (by decide) (fun v h1 q => ?_)
      obtain ⟨rfl, rfl⟩ := q
      refine px_PW.steps kt_163.2 1 rfl ?_
      refine px_PW.ret kt_163.2 rfl rfl ?_
      have E : s_mthingIs Z F thing what = ((F 0) (12 + 4 * thing.toNatClampNeg + what.toNatClampNeg)) := (if_pos c0).trans (if_pos c1)
      rw [E]
      exact ⟨rfl, _, _, px_sm.rf, rfl⟩
def s_mbecome (Z : Nat → Int32) (F : Nat → Nat → Int32) (thing : Int32) (km : Int32) : Int32 × (Nat → Int32) × (Nat → Nat → Int32) := (if 0 ≤ thing ∧ thing ≤ ((F 0) 10) - 1 then (if 0 ≤ km ∧ km ≤ 69 then (((upd (F 0) (12 + 4 * thing.toNatClampNeg + 1) (km - km / 10 * 10)) (12 + 4 * thing.toNatClampNeg + 0)), Z, (va_up (va_up F 0 (upd (F 0) (12 + 4 * thing.toNatClampNeg + 1) (km - km / 10 * 10))) 0 (upd (upd (F 0) (12 + 4 * thing.toNatClampNeg + 1) (km - km / 10 * 10)) (12 + 4 * thing.toNatClampNeg + 0) (km / 10)))) else ((-1000000000 - 1), Z, F)) else ((-1000000000 - 1), Z, F))
theorem kc_mbecome {Z : Nat → Int32} {F : Nat → Nat → Int32} {M : Nat} (hM : F 0 10 = nI M) (hM6 : M ≤ 6) (thing : Int32) (km : Int32) : px_PM 3 164 [.ref 1000, .int thing, .int km] ([], px_MH Z F) (fun r h' => r = some (.int (s_mbecome Z F thing km).1) ∧ ∃ Z' F', px_sm (s_mbecome Z F thing km).2.1 (s_mbecome Z F thing km).2.2 Z' F' ∧ h' = ([], px_MH Z' F')) := by
  refine px_PM.start (nL := 3) (code := pc_164) rfl rfl ?_
  refine px_PW.steps kt_164.2 2 rfl ?_
  refine px_PW.callV kt_164.2 rfl rfl rfl rfl (mm_isThing _) (by decide) (fun v h1 q => ?_)
  obtain ⟨rfl, rfl⟩ := q
  refine px_PW.steps kt_164.2 1 rfl ?_
  refine px_PW.br (fun c0 => ?_) (fun c0 => ?_)
  · have c0 : ¬ (0 ≤ thing ∧ thing ≤ ((F 0) 10) - 1) := px_b1z (of_decide_eq_true c0)
    refine px_PW.steps kt_164.2 2 rfl ?_
    refine px_PW.callV kt_164.2 rfl rfl rfl rfl (mm_error 1 (by decide)) (by decide) (fun v h1 q => ?_)
    obtain ⟨rfl, rfl⟩ := q
    refine px_PW.ret kt_164.2 rfl rfl ?_
    have E : s_mbecome Z F thing km = ((-1000000000 - 1), Z, F) := if_neg c0
    rw [E]
    exact ⟨rfl, _, _, px_sm.err, rfl⟩
  · have c0 : 0 ≤ thing ∧ thing ≤ ((F 0) 10) - 1 := px_b1n (of_decide_eq_false c0)
    refine px_PW.steps kt_164.2 1 rfl ?_
    refine px_PW.callS kt_164.2 rfl rfl rfl (mm_isKind _ _) (by decide) (fun v h1 q => ?_)
    obtain ⟨rfl, rfl⟩ := q
    refine px_PW.steps kt_164.2 1 rfl ?_
    refine px_PW.br (fun c1 => ?_) (fun c1 => ?_)
    · have c1 : 0 ≤ km ∧ km ≤ 69 := px_b1n (of_decide_eq_false (px_nt c1))
      refine px_PW.steps kt_164.2 6 rfl ?_
      refine px_PW.callV kt_164.2 rfl rfl rfl rfl (mm_lays1 (n := thing.toNatClampNeg) (k := 1) (px_thN hM hM6 c0).1 rfl (px_thN hM hM6 c0).2.2 (by omega) _) (by decide) (fun v h1 q => ?_)
      obtain ⟨rfl, rfl⟩ := q
      refine px_PW.steps kt_164.2 11 rfl ?_
      refine px_PW.callV kt_164.2 rfl rfl rfl rfl (mm_change1 (n := 12 + 4 * thing.toNatClampNeg + 0) (px_ix (px_thN hM hM6 c0).1 rfl) (by have := (px_thN hM hM6 c0).2.2; omega) _) (by decide) (fun v h1 q => ?_)
      obtain ⟨rfl, rfl⟩ := q
      refine px_PW.ret kt_164.2 rfl rfl ?_
      have E : s_mbecome Z F thing km = (((upd (F 0) (12 + 4 * thing.toNatClampNeg + 1) (km - km / 10 * 10)) (12 + 4 * thing.toNatClampNeg + 0)), Z, (va_up (va_up F 0 (upd (F 0) (12 + 4 * thing.toNatClampNeg + 1) (km - km / 10 * 10))) 0 (upd (upd (F 0) (12 + 4 * thing.toNatClampNeg + 1) (km - km / 10 * 10)) (12 + 4 * thing.toNatClampNeg + 0) (km / 10)))) := (if_pos c0).trans (if_pos c1)
      rw [E]
      exact ⟨rfl, _, _, px_sm.rf, rfl⟩
    · have c1 : ¬ (0 ≤ km ∧ km ≤ 69) := px_b1z (of_decide_eq_true (px_nf c1))
      refine px_PW.steps kt_164.2 2 rfl ?_
      refine px_PW.callV kt_164.2 rfl rfl rfl rfl (mm_error 1 (by decide)) (by decide) (fun v h1 q => ?_)
      obtain ⟨rfl, rfl⟩ := q
      refine px_PW.ret kt_164.2 rfl rfl ?_
      have E : s_mbecome Z F thing km = ((-1000000000 - 1), Z, F) := (if_pos c0).trans (if_neg c1)
      rw [E]
      exact ⟨rfl, _, _, px_sm.err, rfl⟩
def s_mhang (Z : Nat → Int32) (F : Nat → Nat → Int32) (thing : Int32) (from_ : Int32) : Int32 × (Nat → Int32) × (Nat → Nat → Int32) := (if 0 ≤ thing ∧ thing ≤ ((F 0) 10) - 1 then (if 0 ≤ from_ ∧ from_ ≤ 4000 then (((F 0) (12 + 4 * thing.toNatClampNeg + 2)), Z, (va_up F 0 (upd (F 0) (12 + 4 * thing.toNatClampNeg + 2) from_))) else ((-1000000000 - 1), Z, F)) else ((-1000000000 - 1), Z, F))
theorem kc_mhang {Z : Nat → Int32} {F : Nat → Nat → Int32} {M : Nat} (hM : F 0 10 = nI M) (hM6 : M ≤ 6) (thing : Int32) (from_ : Int32) : px_PM 3 166 [.ref 1000, .int thing, .int from_] ([], px_MH Z F) (fun r h' => r = some (.int (s_mhang Z F thing from_).1) ∧ ∃ Z' F', px_sm (s_mhang Z F thing from_).2.1 (s_mhang Z F thing from_).2.2 Z' F' ∧ h' = ([], px_MH Z' F')) := by
  refine px_PM.start (nL := 3) (code := pc_166) rfl rfl ?_
  refine px_PW.steps kt_166.2 2 rfl ?_
  refine px_PW.callV kt_166.2 rfl rfl rfl rfl (mm_isThing _) (by decide) (fun v h1 q => ?_)
  obtain ⟨rfl, rfl⟩ := q
  refine px_PW.steps kt_166.2 1 rfl ?_
  refine px_PW.br (fun c0 => ?_) (fun c0 => ?_)
  · have c0 : ¬ (0 ≤ thing ∧ thing ≤ ((F 0) 10) - 1) := px_b1z (of_decide_eq_true c0)
    refine px_PW.steps kt_166.2 2 rfl ?_
    refine px_PW.callV kt_166.2 rfl rfl rfl rfl (mm_error 1 (by decide)) (by decide) (fun v h1 q => ?_)
    obtain ⟨rfl, rfl⟩ := q
    refine px_PW.ret kt_166.2 rfl rfl ?_
    have E : s_mhang Z F thing from_ = ((-1000000000 - 1), Z, F) := if_neg c0
    rw [E]
    exact ⟨rfl, _, _, px_sm.err, rfl⟩
  · have c0 : 0 ≤ thing ∧ thing ≤ ((F 0) 10) - 1 := px_b1n (of_decide_eq_false c0)
    refine px_PW.steps kt_166.2 3 rfl ?_
    refine px_PW.callS kt_166.2 rfl rfl rfl (cm_117 _ _ _ _) (by decide) (fun v h1 q => ?_)
    obtain ⟨rfl, rfl⟩ := q
    refine px_PW.steps kt_166.2 1 rfl ?_
    refine px_PW.br (fun c1 => ?_) (fun c1 => ?_)
    · have c1 : ¬ (0 ≤ from_ ∧ from_ ≤ 4000) := px_b1z (of_decide_eq_true c1)
      refine px_PW.steps kt_166.2 2 rfl ?_
      refine px_PW.callV kt_166.2 rfl rfl rfl rfl (mm_error 1 (by decide)) (by decide) (fun v h1 q => ?_)
      obtain ⟨rfl, rfl⟩ := q
      refine px_PW.ret kt_166.2 rfl rfl ?_
      have E : s_mhang Z F thing from_ = ((-1000000000 - 1), Z, F) := (if_pos c0).trans (if_neg c1)
      rw [E]
      exact ⟨rfl, _, _, px_sm.err, rfl⟩
    · have c1 : 0 ≤ from_ ∧ from_ ≤ 4000 := px_b1n (of_decide_eq_false c1)
      refine px_PW.steps kt_166.2 9 rfl ?_
      refine px_PW.callV kt_166.2 rfl rfl rfl rfl (mm_change1 (n := 12 + 4 * thing.toNatClampNeg + 2) (px_ix (px_thN hM hM6 c0).1 rfl) (by have := (px_thN hM hM6 c0).2.2; omega) _) (by decide) (fun v h1 q => ?_)
      obtain ⟨rfl, rfl⟩ := q
      refine px_PW.steps kt_166.2 1 rfl ?_
      refine px_PW.ret kt_166.2 rfl rfl ?_
      have E : s_mhang Z F thing from_ = (((F 0) (12 + 4 * thing.toNatClampNeg + 2)), Z, (va_up F 0 (upd (F 0) (12 + 4 * thing.toNatClampNeg + 2) from_))) := (if_pos c0).trans (if_pos c1)
      rw [E]
      exact ⟨rfl, _, _, px_sm.rf, rfl⟩
def s_mseed (Z : Nat → Int32) (F : Nat → Nat → Int32) (v : Int32) : Int32 × (Nat → Int32) × (Nat → Nat → Int32) := (((F 0) (7)), Z, (va_up F 0 (upd (F 0) (7) v)))
theorem kc_mseed {Z : Nat → Int32} {F : Nat → Nat → Int32}  (v : Int32) : px_PM 2 175 [.ref 1000, .int v] ([], px_MH Z F) (fun r h' => r = some (.int (s_mseed Z F v).1) ∧ ∃ Z' F', px_sm (s_mseed Z F v).2.1 (s_mseed Z F v).2.2 Z' F' ∧ h' = ([], px_MH Z' F')) := by
  refine px_PM.start (nL := 2) (code := pc_175) rfl rfl ?_
  refine px_PW.steps kt_175.2 3 rfl ?_
  refine px_PW.callV kt_175.2 rfl rfl rfl rfl (mm_change1 (n := 7) rfl (by decide) _) (by decide) (fun v h1 q => ?_)
  obtain ⟨rfl, rfl⟩ := q
  refine px_PW.ret kt_175.2 rfl rfl ?_
  have E : s_mseed Z F v = (((F 0) (7)), Z, (va_up F 0 (upd (F 0) (7) v))) := rfl
  rw [E]
  exact ⟨rfl, _, _, px_sm.rf, rfl⟩
def s_mcount (Z : Nat → Int32) (F : Nat → Nat → Int32) (what : Int32) : Int32 := (if what = 0 then ((F 0) 10) else (if what = 1 then ((F 0) 6) else (if what = 2 then ((F 0) 8) else (if what = 3 then ((F 0) 9) else (if what = 4 then (Z 6) else (if what = 5 then ((F 0) 7) else (-1000000000 - 1)))))))
theorem px_swd_205_1 {x : Int32} (c0 : ¬ (x = 0)) (c1 : ¬ (x = 1)) (c2 : ¬ (x = 2)) (c3 : ¬ (x = 3)) (c4 : ¬ (x = 4)) (c5 : ¬ (x = 5)) : px_sw 0 [40, 48, 56, 64, 72, 77] 85 x.toInt = 85 := by
  have d0 : ¬ (x.toInt = 0) := fun h => c0 (px_i_of h (by decide +kernel))
  have d1 : ¬ (x.toInt = 1) := fun h => c1 (px_i_of h (by decide +kernel))
  have d2 : ¬ (x.toInt = 2) := fun h => c2 (px_i_of h (by decide +kernel))
  have d3 : ¬ (x.toInt = 3) := fun h => c3 (px_i_of h (by decide +kernel))
  have d4 : ¬ (x.toInt = 4) := fun h => c4 (px_i_of h (by decide +kernel))
  have d5 : ¬ (x.toInt = 5) := fun h => c5 (px_i_of h (by decide +kernel))
  exact px_sw_d (fun y h1 h2 => by
    have h1 : (0 : Int) ≤ y := h1
    have h2 : y < 6 := h2
    rcases (show y = 0 ∨ y = 1 ∨ y = 2 ∨ y = 3 ∨ y = 4 ∨ y = 5 by omega) with rfl | rfl | rfl | rfl | rfl | rfl
    · exact Or.inl (fun h => d0 h)
    · exact Or.inl (fun h => d1 h)
    · exact Or.inl (fun h => d2 h)
    · exact Or.inl (fun h => d3 h)
    · exact Or.inl (fun h => d4 h)
    · exact Or.inl (fun h => d5 h))
theorem kc_mcount {Z : Nat → Int32} {F : Nat → Nat → Int32}  (what : Int32) : px_PM 2 205 [.ref 1000, .int what] ([], px_MH Z F) (fun r h' => r = some (.int (s_mcount Z F what)) ∧ ∃ Z' F', px_sm Z F Z' F' ∧ h' = ([], px_MH Z' F')) := by
  refine px_PM.start (nL := 2) (code := pc_205) rfl rfl ?_
  refine px_PW.steps kt_205.2 2 rfl ?_
  by_cases c0 : what = 0
  · refine px_PW.at (pc' := 40) (by rw [c0]; rfl) ?_
    refine px_PW.steps kt_205.2 3 rfl ?_
    refine px_PW.steps kt_205.2 1 rfl ?_
    refine px_PW.ret kt_205.2 rfl rfl ?_
    have E : s_mcount Z F what = ((F 0) 10) := if_pos c0
    rw [E]
    exact ⟨rfl, _, _, px_sm.rf, rfl⟩
  · skip
    by_cases c1 : what = 1
    · refine px_PW.at (pc' := 48) (by rw [c1]; rfl) ?_
      refine px_PW.steps kt_205.2 3 rfl ?_
      refine px_PW.steps kt_205.2 1 rfl ?_
      refine px_PW.ret kt_205.2 rfl rfl ?_
      have E : s_mcount Z F what = ((F 0) 6) := (if_neg c0).trans (if_pos c1)
      rw [E]
      exact ⟨rfl, _, _, px_sm.rf, rfl⟩
    · skip
      by_cases c2 : what = 2
      · refine px_PW.at (pc' := 56) (by rw [c2]; rfl) ?_
        refine px_PW.steps kt_205.2 3 rfl ?_
        refine px_PW.steps kt_205.2 1 rfl ?_
        refine px_PW.ret kt_205.2 rfl rfl ?_
        have E : s_mcount Z F what = ((F 0) 8) := (if_neg c0).trans ((if_neg c1).trans (if_pos c2))
        rw [E]
        exact ⟨rfl, _, _, px_sm.rf, rfl⟩
      · skip
        by_cases c3 : what = 3
        · refine px_PW.at (pc' := 64) (by rw [c3]; rfl) ?_
          refine px_PW.steps kt_205.2 3 rfl ?_
          refine px_PW.steps kt_205.2 1 rfl ?_
          refine px_PW.ret kt_205.2 rfl rfl ?_
          have E : s_mcount Z F what = ((F 0) 9) := (if_neg c0).trans ((if_neg c1).trans ((if_neg c2).trans (if_pos c3)))
          rw [E]
          exact ⟨rfl, _, _, px_sm.rf, rfl⟩
        · skip
          by_cases c4 : what = 4
          · refine px_PW.at (pc' := 72) (by rw [c4]; rfl) ?_
            refine px_PW.steps kt_205.2 2 rfl ?_
            refine px_PW.ret kt_205.2 rfl rfl ?_
            have E : s_mcount Z F what = (Z 6) := (if_neg c0).trans ((if_neg c1).trans ((if_neg c2).trans ((if_neg c3).trans (if_pos c4))))
            rw [E]
            exact ⟨rfl, _, _, px_sm.rf, rfl⟩
          · skip
            by_cases c5 : what = 5
            · refine px_PW.at (pc' := 77) (by rw [c5]; rfl) ?_
              refine px_PW.steps kt_205.2 3 rfl ?_
              refine px_PW.steps kt_205.2 1 rfl ?_
              refine px_PW.ret kt_205.2 rfl rfl ?_
              have E : s_mcount Z F what = ((F 0) 7) := (if_neg c0).trans ((if_neg c1).trans ((if_neg c2).trans ((if_neg c3).trans ((if_neg c4).trans (if_pos c5)))))
              rw [E]
              exact ⟨rfl, _, _, px_sm.rf, rfl⟩
            · skip
              refine px_PW.at (px_swd_205_1 c0 c1 c2 c3 c4 c5) ?_
              refine px_PW.steps kt_205.2 2 rfl ?_
              refine px_PW.callV kt_205.2 rfl rfl rfl rfl (mm_error 1 (by decide)) (by decide) (fun v h1 q => ?_)
              obtain ⟨rfl, rfl⟩ := q
              refine px_PW.ret kt_205.2 rfl rfl ?_
              have E : s_mcount Z F what = (-1000000000 - 1) := (if_neg c0).trans ((if_neg c1).trans ((if_neg c2).trans ((if_neg c3).trans ((if_neg c4).trans (if_neg c5)))))
              rw [E]
              exact ⟨rfl, _, _, px_sm.err, rfl⟩
theorem px_in16 {i : Int32} (c : 1 ≤ i ∧ i ≤ 6) : i = nI i.toNatClampNeg ∧ i.toNatClampNeg < 7 := by
  have h0 : (0 : Int32) ≤ i := Int32.le_trans (by decide) c.1
  exact px_in5 (n := 6) (by decide) ⟨h0, c.2⟩
theorem px_inTr {i x : Int32} (hx : 0 ≤ x ∧ x.toInt ≤ 30) (c : 0 ≤ i ∧ i ≤ x - 1) : i = nI i.toNatClampNeg ∧ i.toNatClampNeg < 30 := by
  obtain ⟨n, hn, rfl⟩ := nI_of (Int32.not_lt.mpr hx.1)
  obtain ⟨k, hk, rfl⟩ := nI_of (Int32.not_lt.mpr c.1)
  have c2 := c.2
  have h3 := hx.2
  rw [nI_toInt (by omega)] at h3
  rw [nI_clamp (by omega)]
  cases n with
  | zero =>
    have h1 : nI 0 - 1 = (-1 : Int32) := by decide
    rw [h1, Int32.le_iff_toInt_le, nI_toInt (by omega)] at c2
    have h2 : (-1 : Int32).toInt = -1 := by decide
    omega
  | succ n =>
    rw [nI_pred, nI_leI (by omega) (by omega)] at c2
    exact ⟨rfl, by omega⟩
def s_mtold (Z : Nat → Int32) (F : Nat → Nat → Int32) (k : Int32) : Int32 := (if 1 ≤ k ∧ k ≤ 6 then ((F 2) k.toNatClampNeg) else (-1000000000 - 1))
theorem kc_mtold {Z : Nat → Int32} {F : Nat → Nat → Int32}  (k : Int32) : px_PM 2 206 [.ref 1000, .int k] ([], px_MH Z F) (fun r h' => r = some (.int (s_mtold Z F k)) ∧ ∃ Z' F', px_sm Z F Z' F' ∧ h' = ([], px_MH Z' F')) := by
  refine px_PM.start (nL := 2) (code := pc_206) rfl rfl ?_
  refine px_PW.steps kt_206.2 3 rfl ?_
  refine px_PW.callS kt_206.2 rfl rfl rfl (cm_117 _ _ _ _) (by decide) (fun v h1 q => ?_)
  obtain ⟨rfl, rfl⟩ := q
  refine px_PW.steps kt_206.2 1 rfl ?_
  refine px_PW.br (fun c0 => ?_) (fun c0 => ?_)
  · have c0 : ¬ (1 ≤ k ∧ k ≤ 6) := px_b1z (of_decide_eq_true c0)
    refine px_PW.steps kt_206.2 2 rfl ?_
    refine px_PW.callV kt_206.2 rfl rfl rfl rfl (mm_error 1 (by decide)) (by decide) (fun v h1 q => ?_)
    obtain ⟨rfl, rfl⟩ := q
    refine px_PW.ret kt_206.2 rfl rfl ?_
    have E : s_mtold Z F k = (-1000000000 - 1) := if_neg c0
    rw [E]
    exact ⟨rfl, _, _, px_sm.err, rfl⟩
  · have c0 : 1 ≤ k ∧ k ≤ 6 := px_b1n (of_decide_eq_false c0)
    refine px_PW.steps kt_206.2 3 rfl ?_
    refine px_PW.aldN kt_206.2 rfl rfl (n := k.toNatClampNeg) (px_in16 c0).1 (px_in16 c0).2 ?_
    refine px_PW.steps kt_206.2 1 rfl ?_
    refine px_PW.ret kt_206.2 rfl rfl ?_
    have E : s_mtold Z F k = ((F 2) k.toNatClampNeg) := if_pos c0
    rw [E]
    exact ⟨rfl, _, _, px_sm.rf, rfl⟩
def s_mbody (Z : Nat → Int32) (F : Nat → Nat → Int32) (i : Int32) : Int32 := (if 0 ≤ i ∧ i ≤ ((Z 6) - 1) then ((F 10) i.toNatClampNeg) else (-1000000000 - 2))
theorem kc_mbody {Z : Nat → Int32} {F : Nat → Nat → Int32} (hTr : 0 ≤ Z 6 ∧ (Z 6).toInt ≤ 30) (i : Int32) : px_PM 2 193 [.ref 1000, .int i] ([], px_MH Z F) (fun r h' => r = some (.int (s_mbody Z F i)) ∧ ∃ Z' F', px_sm Z F Z' F' ∧ h' = ([], px_MH Z' F')) := by
  refine px_PM.start (nL := 2) (code := pc_193) rfl rfl ?_
  refine px_PW.steps kt_193.2 6 rfl ?_
  refine px_PW.callS kt_193.2 rfl rfl rfl (cm_117 _ _ _ _) (by decide) (fun v h1 q => ?_)
  obtain ⟨rfl, rfl⟩ := q
  refine px_PW.steps kt_193.2 1 rfl ?_
  refine px_PW.br (fun c0 => ?_) (fun c0 => ?_)
  · have c0 : ¬ (0 ≤ i ∧ i ≤ ((Z 6) - 1)) := px_b1z (of_decide_eq_true c0)
    refine px_PW.steps kt_193.2 2 rfl ?_
    refine px_PW.callV kt_193.2 rfl rfl rfl rfl (mm_error 2 (by decide)) (by decide) (fun v h1 q => ?_)
    obtain ⟨rfl, rfl⟩ := q
    refine px_PW.ret kt_193.2 rfl rfl ?_
    have E : s_mbody Z F i = (-1000000000 - 2) := if_neg c0
    rw [E]
    exact ⟨rfl, _, _, px_sm.err, rfl⟩
  · have c0 : 0 ≤ i ∧ i ≤ ((Z 6) - 1) := px_b1n (of_decide_eq_false c0)
    refine px_PW.steps kt_193.2 3 rfl ?_
    refine px_PW.aldN kt_193.2 rfl rfl (n := i.toNatClampNeg) (px_inTr hTr c0).1 (px_inTr hTr c0).2 ?_
    refine px_PW.steps kt_193.2 1 rfl ?_
    refine px_PW.ret kt_193.2 rfl rfl ?_
    have E : s_mbody Z F i = ((F 10) i.toNatClampNeg) := if_pos c0
    rw [E]
    exact ⟨rfl, _, _, px_sm.rf, rfl⟩
