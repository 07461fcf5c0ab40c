/-! part 38.mloop -/
section
theorem px_PW.remN {d : Nat} {code : Nat → Option px_A} (hT : px_frT code) {Q : Option Value → px_H → Prop} {pc a b : Nat} {x y : Int32} {lv : px_L} {r : List Value} {h : px_H} (hc : code pc = some px_irem) (hx : x = nI a) (hy : y = nI b) (ha : a < 2 ^ 31) (h0 : 0 < b) (hb : b < 2 ^ 31) (k : px_PW d code Q (pc + 1) lv (.int (nI (a % b)) :: r) h) : px_PW d code Q pc lv (.int y :: .int x :: r) h := by
  subst hx hy
  refine px_PW.bin0 hT hc (nI_ne0 h0 hb) ?_
  rw [zz_rem ha hb]
  exact k
theorem px_PW.divN {d : Nat} {code : Nat → Option px_A} (hT : px_frT code) {Q : Option Value → px_H → Prop} {pc a b : Nat} {x y : Int32} {lv : px_L} {r : List Value} {h : px_H} (hc : code pc = some px_idiv) (hx : x = nI a) (hy : y = nI b) (ha : a < 2 ^ 31) (h0 : 0 < b) (hb : b < 2 ^ 31) (k : px_PW d code Q (pc + 1) lv (.int (nI (a / b)) :: r) h) : px_PW d code Q pc lv (.int y :: .int x :: r) h := by
  subst hx hy
  refine px_PW.bin0 hT hc (nI_ne0 h0 hb) ?_
  rw [zz_div ha hb]
  exact k
theorem mm_draw {Z : Nat → Int32} {F : Nat → Nat → Int32}   : px_PM 1 173 [.ref 1000] ([], px_MH Z F) (fun r h' => r = some (.int (nI (zz_dr (F 0 7)))) ∧ h' = ([], px_MH Z (va_up F 0 (upd (F 0) 7 (zz_dz (F 0 7)))))) := by
  refine px_PM.start (nL := 1) (code := pc_173) rfl rfl ?_
  refine px_PW.steps kt_173.2 6 rfl ?_
  refine px_PW.steps kt_173.2 1 rfl ?_
  refine px_PW.steps kt_173.2 4 rfl ?_
  refine ms_0 kt_173.2 rfl (n := 7) rfl (by decide) ?_
  refine px_PW.steps kt_173.2 3 rfl ?_
  refine px_PW.steps kt_173.2 1 rfl ?_
  refine px_PW.steps kt_173.2 2 rfl ?_
  refine px_PW.ret kt_173.2 rfl rfl ?_
  exact ⟨congrArg (fun z => some (Value.int z)) (zz_dr_eq (F 0 7)), rfl⟩
theorem mc_0 {d : Nat} {code : Nat → Option px_A} (hT : px_frT code) {Q : Option Value → px_H → Prop} {pc n : Nat} {i x : Int32} {lv : px_L} {r : List Value} {Z f : Nat → Int32} {F : Nat → Nat → Int32} (hc : code pc = some px_iast) (hi : i = nI n) (hn : n < 370) (kk : px_PW d code Q (pc + 1) lv r ([], px_MH Z (va_up F 0 (upd f n x)))) : px_PW d code Q pc lv (.int x :: .int i :: .ref 1001 :: r) ([], px_MH Z (va_up F 0 f)) := by
  refine ms_0 hT hc hi hn ?_
  rw [px_up_up, px_up_self]
  exact kk
theorem mm_drawC {Z f : Nat → Int32} {F : Nat → Nat → Int32} (z : Int32) (hz : f 7 = z) : px_PM 1 173 [.ref 1000] ([], px_MH Z (va_up F 0 f)) (fun r h' => r = some (.int (nI (zz_dr z))) ∧ h' = ([], px_MH Z (va_up F 0 (upd f 7 (zz_dz z))))) := by
  have h := mm_draw (Z := Z) (F := va_up F 0 f)
  rw [px_up_up, px_up_self, hz] at h
  exact h
theorem mm_laysC {Z f : Nat → Int32} {F : Nat → Nat → Int32} {n k : Nat} {t x : Int32} (ht : t = nI n) (hx : x = nI k) (hn : n < 6) (hk : k < 4) (v : Int32) : px_PM 1 123 [.ref 1000, .int t, .int x, .int v] ([], px_MH Z (va_up F 0 f)) (fun r h' => r = none ∧ h' = ([], px_MH Z (va_up F 0 (upd f (12 + 4 * n + k) v)))) := by
  have h := mm_lays1 (Z := Z) (F := va_up F 0 f) ht hx hn hk v
  rw [px_up_up, px_up_self] at h
  exact h
theorem px_pos {x : Int32} {M : Nat} (hM : x = nI M) (c : ¬ (x ≤ 0)) : 0 < M := by
  rcases Nat.eq_zero_or_pos M with h | h
  · subst h; subst hM; exact absurd (by decide) c
  · exact h
def s_mchg (dr : Int32 → Nat) (dz : Int32 → Int32) (L T M : Nat) (f : Nat → Int32) : Nat → Int32 := (if ((upd (upd f 7 (dz (f 7))) 6 (1 + (nI ((dr (f 7)) % T)))) 10) ≤ 0 then (upd (upd f 7 (dz (f 7))) 6 (1 + (nI ((dr (f 7)) % T)))) else (upd (upd (upd (upd (upd f 7 (dz (f 7))) 6 (1 + (nI ((dr (f 7)) % T)))) 7 (dz (dz (f 7)))) 7 (dz (dz (dz (f 7))))) (12 + 4 * ((dr (dz (f 7))) % M) + 2) (nI ((dr (dz (dz (f 7)))) % (L + 1)))))
def s_mchgs (dr : Int32 → Nat) (dz : Int32 → Int32) (L T M : Nat) : Nat → (Nat → Int32) → Nat → Int32
  | 0, f => f
  | m + 1, f => s_mchgs dr dz L T M m (s_mchg dr dz L T M f)
theorem s_mchg_keep {dr : Int32 → Nat} {dz : Int32 → Int32} {L T M : Nat} (f : Nat → Int32) (i : Nat) (hi : i < 12) (h6 : i ≠ 6) (h7 : i ≠ 7) : s_mchg dr dz L T M f i = f i := by
  unfold s_mchg
  split
  · rw [px_upd_ne _ _ h6, px_upd_ne _ _ h7]
  · rw [px_upd_ne _ _ (by omega), px_upd_ne _ _ h7, px_upd_ne _ _ h7, px_upd_ne _ _ h6, px_upd_ne _ _ h7]
theorem m_loose_loop {dr : Int32 → Nat} {dz : Int32 → Int32} (hdl : ∀ z : Int32, dr z < 16777216) (hdw : ∀ (Z f : Nat → Int32) (F : Nat → Nat → Int32) (z : Int32), f 7 = z → px_PM 1 173 [.ref 1000] ([], px_MH Z (va_up F 0 f)) (fun r h' => r = some (.int (nI (dr z))) ∧ h' = ([], px_MH Z (va_up F 0 (upd f 7 (dz z)))))) {Z : Nat → Int32} {F : Nat → Nat → Int32} {L T M : Nat} (hT1 : 1 ≤ T) (hT200 : T ≤ 200) (hL4 : L ≤ 4000) (hM6 : M ≤ 6) {n : Nat} (hn : n ≤ 40) {Q : Option Value → px_H → Prop} : ∀ (m k : Nat) (f : Nat → Int32) (o3 : Option Value), k + m = n → f 1 = nI T → f 0 = nI L → f 10 = nI M → (∀ o3 : Option Value, px_PW 1 pc_174 Q 91 [some (.ref 1000), some (.int (nI n)), some (.int (nI n)), o3] [] ([], px_MH Z (va_up F 0 (s_mchgs dr dz L T M m f)))) → px_PW 1 pc_174 Q 18 [some (.ref 1000), some (.int (nI n)), some (.int (nI k)), o3] [] ([], px_MH Z (va_up F 0 f))
  | m, k, f, o3, hk, hTi, hL, hM, H => by
    refine px_PW.steps kt_174.2 3 rfl ?_
    refine px_PW.br (fun c0 => ?_) (fun c0 => ?_)
    · have c0 : (nI n) ≤ (nI k) := of_decide_eq_true c0
      have c0 : n ≤ k := (nI_leI (a := n) (b := k) (by omega) (by omega)).mp c0
      obtain rfl : m = 0 := by omega
      obtain rfl : k = n := by omega
      exact H _
    · have c0 : ¬ ((nI n) ≤ (nI k)) := of_decide_eq_false c0
      have c0 : ¬ (n ≤ k) := fun q => c0 ((nI_leI (a := n) (b := k) (by omega) (by omega)).mpr q)
      obtain ⟨m2, rfl⟩ : ∃ m2, m = m2 + 1 := ⟨m - 1, by omega⟩
      refine px_PW.steps kt_174.2 5 rfl ?_
      refine px_PW.callV kt_174.2 rfl rfl rfl rfl (hdw _ _ _ (f 7) rfl) (by decide) (fun v h1 q => ?_)
      obtain ⟨rfl, rfl⟩ := q
      refine px_PW.steps kt_174.2 3 rfl ?_
      refine px_PW.steps kt_174.2 1 rfl ?_
      refine px_PW.remN kt_174.2 rfl (a := (dr (f 7))) (b := T) rfl (show _ = nI T from hTi) (Nat.lt_trans (hdl _) (by decide)) (by omega) (by omega) ?_
      refine px_PW.steps kt_174.2 1 rfl ?_
      refine mc_0 kt_174.2 rfl (n := 6) rfl (by decide) ?_
      refine px_PW.steps kt_174.2 3 rfl ?_
      refine px_PW.steps kt_174.2 1 rfl ?_
      refine px_PW.steps kt_174.2 1 rfl ?_
      refine px_PW.br (fun c1 => ?_) (fun c1 => ?_)
      · have c1 : ((upd (upd f 7 (dz (f 7))) 6 (1 + (nI ((dr (f 7)) % T)))) 10) ≤ 0 := of_decide_eq_true c1
        refine px_PW.steps kt_174.2 2 rfl ?_
        have e0 : s_mchg dr dz L T M f = (upd (upd f 7 (dz (f 7))) 6 (1 + (nI ((dr (f 7)) % T)))) := if_pos c1
        have g := m_loose_loop hdl hdw hT1 hT200 hL4 hM6 hn (Z := Z) (F := F) (Q := Q) m2 (k + 1) (s_mchg dr dz L T M f) (o3) (by omega) ((s_mchg_keep f 1 (by decide) (by decide) (by decide)).trans hTi) ((s_mchg_keep f 0 (by decide) (by decide) (by decide)).trans hL) ((s_mchg_keep f 10 (by decide) (by decide) (by decide)).trans hM) H
        rw [e0, nI_succ k] at g
        exact g
      · have c1 : ¬ (((upd (upd f 7 (dz (f 7))) 6 (1 + (nI ((dr (f 7)) % T)))) 10) ≤ 0) := of_decide_eq_false c1
        refine px_PW.steps kt_174.2 1 rfl ?_
        refine px_PW.callV kt_174.2 rfl rfl rfl rfl (hdw _ _ _ (dz (f 7)) rfl) (by decide) (fun v h1 q => ?_)
        obtain ⟨rfl, rfl⟩ := q
        refine px_PW.steps kt_174.2 3 rfl ?_
        refine px_PW.steps kt_174.2 1 rfl ?_
        refine px_PW.remN kt_174.2 rfl (a := (dr (dz (f 7)))) (b := M) rfl (show _ = nI M from hM) (Nat.lt_trans (hdl _) (by decide)) (px_pos hM c1) (by omega) ?_
        refine px_PW.steps kt_174.2 5 rfl ?_
        refine px_PW.callV kt_174.2 rfl rfl rfl rfl (hdw _ _ _ (dz (dz (f 7))) rfl) (by decide) (fun v h1 q => ?_)
        obtain ⟨rfl, rfl⟩ := q
        refine px_PW.steps kt_174.2 3 rfl ?_
        refine px_PW.steps kt_174.2 1 rfl ?_
        refine px_PW.steps kt_174.2 2 rfl ?_
        refine px_PW.remN kt_174.2 rfl (a := (dr (dz (dz (f 7))))) (b := L + 1) rfl (show f 0 + 1 = nI (L + 1) from by rw [hL, nI_succ]) (Nat.lt_trans (hdl _) (by decide)) (by omega) (by omega) ?_
        refine px_PW.callV kt_174.2 rfl rfl rfl rfl (mm_laysC (n := (dr (dz (f 7))) % M) (k := 2) rfl rfl (by have := Nat.mod_lt ((dr (dz (f 7)))) (px_pos hM c1); omega) (by omega) _) (by decide) (fun v h1 q => ?_)
        obtain ⟨rfl, rfl⟩ := q
        refine px_PW.steps kt_174.2 2 rfl ?_
        have e0 : s_mchg dr dz L T M f = (upd (upd (upd (upd (upd f 7 (dz (f 7))) 6 (1 + (nI ((dr (f 7)) % T)))) 7 (dz (dz (f 7)))) 7 (dz (dz (dz (f 7))))) (12 + 4 * ((dr (dz (f 7))) % M) + 2) (nI ((dr (dz (dz (f 7)))) % (L + 1)))) := if_neg c1
        have g := m_loose_loop hdl hdw hT1 hT200 hL4 hM6 hn (Z := Z) (F := F) (Q := Q) m2 (k + 1) (s_mchg dr dz L T M f) (some (.int (nI ((dr (dz (f 7))) % M)))) (by omega) ((s_mchg_keep f 1 (by decide) (by decide) (by decide)).trans hTi) ((s_mchg_keep f 0 (by decide) (by decide) (by decide)).trans hL) ((s_mchg_keep f 10 (by decide) (by decide) (by decide)).trans hM) H
        rw [e0, nI_succ k] at g
        exact g
theorem px_in40m {n : Int32} (c : 1 ≤ n ∧ n ≤ 40) : n = nI n.toNatClampNeg ∧ n.toNatClampNeg ≤ 40 := px_in40 (Int32.not_lt.mpr c.1) c.2
def s_mloose (L T M : Nat) (Z : Nat → Int32) (F : Nat → Nat → Int32) (n : Int32) : Int32 × (Nat → Int32) × (Nat → Nat → Int32) := (if 1 ≤ n ∧ n ≤ 40 then (((s_mchgs zz_dr zz_dz L T M n.toNatClampNeg (F 0)) 6), Z, (va_up F 0 (s_mchgs zz_dr zz_dz L T M n.toNatClampNeg (F 0)))) else ((-1000000000 - 1), Z, F))
theorem kc_mloose {Z : Nat → Int32} {F : Nat → Nat → Int32} {L T M : Nat} (hT1 : 1 ≤ T) (hT200 : T ≤ 200) (hL4 : L ≤ 4000) (hM6 : M ≤ 6) (hTi : F 0 1 = nI T) (hL : F 0 0 = nI L) (hM : F 0 10 = nI M) (n : Int32) : px_PM 2 174 [.ref 1000, .int n] ([], px_MH Z F) (fun r h' => r = some (.int (s_mloose L T M Z F n).1) ∧ ∃ Z' F', px_sm (s_mloose L T M Z F n).2.1 (s_mloose L T M Z F n).2.2 Z' F' ∧ h' = ([], px_MH Z' F')) := by
  refine px_PM.start (nL := 4) (code := pc_174) rfl rfl ?_
  refine px_PW.steps kt_174.2 3 rfl ?_
  refine px_PW.callS kt_174.2 rfl rfl rfl (cm_117 _ _ _ _) (by decide) (fun v h1 q => ?_)
  obtain ⟨rfl, rfl⟩ := q
  refine px_PW.steps kt_174.2 1 rfl ?_
  refine px_PW.br (fun c0 => ?_) (fun c0 => ?_)
  · have c0 : 1 ≤ n ∧ n ≤ 40 := px_b1n (of_decide_eq_false (px_nt c0))
    refine px_PW.steps kt_174.2 2 rfl ?_
    have hn := px_in40m c0
    refine px_PW.lc (lv' := [some (.ref 1000), some (.int (nI n.toNatClampNeg)), some (.int (nI 0)), none]) (by rw [← hn.1]; rfl) ?_
    refine px_PW.hp (h' := ([], px_MH Z (va_up F 0 (F 0)))) (by rw [px_up_id]) ?_
    refine m_loose_loop (dr := zz_dr) (dz := zz_dz) zz_dr_lt (fun _ _ _ z hz => mm_drawC z hz) hT1 hT200 hL4 hM6 hn.2 n.toNatClampNeg 0 (F 0) none (by omega) hTi hL hM (fun o3 => ?_)
    refine px_PW.steps kt_174.2 3 rfl ?_
    refine px_PW.steps kt_174.2 1 rfl ?_
    refine px_PW.ret kt_174.2 rfl rfl ?_
    have E : s_mloose L T M Z F n = (((s_mchgs zz_dr zz_dz L T M n.toNatClampNeg (F 0)) 6), Z, (va_up F 0 (s_mchgs zz_dr zz_dz L T M n.toNatClampNeg (F 0)))) := if_pos c0
    rw [E]
    exact ⟨rfl, _, _, px_sm.rf, rfl⟩
  · have c0 : ¬ (1 ≤ n ∧ n ≤ 40) := px_b1z (of_decide_eq_true (px_nf c0))
    refine px_PW.steps kt_174.2 2 rfl ?_
    refine px_PW.callV kt_174.2 rfl rfl rfl rfl (mm_error 1 (by decide)) (by decide) (fun v h1 q => ?_)
    obtain ⟨rfl, rfl⟩ := q
    refine px_PW.ret kt_174.2 rfl rfl ?_
    have E : s_mloose L T M Z F n = ((-1000000000 - 1), Z, F) := if_neg c0
    rw [E]
    exact ⟨rfl, _, _, px_sm.err, rfl⟩
def s_mmiddle (Z : Nat → Int32) (F : Nat → Nat → Int32) (what : Int32) : Int32 := (if 0 ≤ what ∧ what ≤ 1 then (if what = 0 then (if 1 ≤ (((((F 0) 0) - ((F 0) 2)) / 2) - ((((F 0) 0) - ((F 0) 2)) / 2) / (((F 0) 1) + ((F 0) 2)) * (((F 0) 1) + ((F 0) 2))) ∧ (((((F 0) 0) - ((F 0) 2)) / 2) - ((((F 0) 0) - ((F 0) 2)) / 2) / (((F 0) 1) + ((F 0) 2)) * (((F 0) 1) + ((F 0) 2))) ≤ ((F 0) 1) then (((((F 0) 0) - ((F 0) 2)) / 2) - ((((F 0) 0) - ((F 0) 2)) / 2) / (((F 0) 1) + ((F 0) 2)) * (((F 0) 1) + ((F 0) 2))) else ((F 0) 1)) else (if 1 ≤ ((((((F 0) 0) - ((F 0) 1)) / 2) - ((F 0) 2)) - (((((F 0) 0) - ((F 0) 1)) / 2) - ((F 0) 2)) / (((F 0) 1) + ((F 0) 2)) * (((F 0) 1) + ((F 0) 2))) ∧ ((((((F 0) 0) - ((F 0) 1)) / 2) - ((F 0) 2)) - (((((F 0) 0) - ((F 0) 1)) / 2) - ((F 0) 2)) / (((F 0) 1) + ((F 0) 2)) * (((F 0) 1) + ((F 0) 2))) ≤ ((F 0) 1) then ((((((F 0) 0) - ((F 0) 1)) / 2) - ((F 0) 2)) - (((((F 0) 0) - ((F 0) 1)) / 2) - ((F 0) 2)) / (((F 0) 1) + ((F 0) 2)) * (((F 0) 1) + ((F 0) 2))) else ((F 0) 1))) else (-1000000000 - 1))
theorem kc_mmiddle {Z : Nat → Int32} {F : Nat → Nat → Int32} (hTJ : ¬ (F 0 1 + F 0 2 = 0)) (what : Int32) : px_PM 2 179 [.ref 1000, .int what] ([], px_MH Z F) (fun r h' => r = some (.int (s_mmiddle Z F what)) ∧ ∃ Z' F', px_sm Z F Z' F' ∧ h' = ([], px_MH Z' F')) := by
  refine px_PM.start (nL := 4) (code := pc_179) rfl rfl ?_
  refine px_PW.steps kt_179.2 3 rfl ?_
  refine px_PW.callS kt_179.2 rfl rfl rfl (cm_117 _ _ _ _) (by decide) (fun v h1 q => ?_)
  obtain ⟨rfl, rfl⟩ := q
  refine px_PW.steps kt_179.2 1 rfl ?_
  refine px_PW.br (fun c0 => ?_) (fun c0 => ?_)
  · have c0 : 0 ≤ what ∧ what ≤ 1 := px_b1n (of_decide_eq_false (px_nt c0))
    refine px_PW.steps kt_179.2 2 rfl ?_
    refine px_PW.br (fun c1 => ?_) (fun c1 => ?_)
    · have c1 : ¬ (what = 0) := of_decide_eq_false (px_nt c1)
      refine px_PW.steps kt_179.2 3 rfl ?_
      refine px_PW.steps kt_179.2 1 rfl ?_
      refine px_PW.steps kt_179.2 3 rfl ?_
      refine px_PW.steps kt_179.2 1 rfl ?_
      refine px_PW.steps kt_179.2 6 rfl ?_
      refine px_PW.steps kt_179.2 1 rfl ?_
      refine px_PW.steps kt_179.2 6 rfl ?_
      refine px_PW.steps kt_179.2 1 rfl ?_
      refine px_PW.steps kt_179.2 3 rfl ?_
      refine px_PW.steps kt_179.2 1 rfl ?_
      refine px_PW.steps kt_179.2 1 rfl ?_
      refine px_PW.bin0 kt_179.2 rfl hTJ ?_
      refine px_PW.steps kt_179.2 6 rfl ?_
      refine px_PW.steps kt_179.2 1 rfl ?_
      refine px_PW.callS kt_179.2 rfl rfl rfl (cm_117 _ _ _ _) (by decide) (fun v h1 q => ?_)
      obtain ⟨rfl, rfl⟩ := q
      refine px_PW.steps kt_179.2 1 rfl ?_
      refine px_PW.br (fun c2 => ?_) (fun c2 => ?_)
      · have c2 : ¬ (1 ≤ ((((((F 0) 0) - ((F 0) 1)) / 2) - ((F 0) 2)) - (((((F 0) 0) - ((F 0) 1)) / 2) - ((F 0) 2)) / (((F 0) 1) + ((F 0) 2)) * (((F 0) 1) + ((F 0) 2))) ∧ ((((((F 0) 0) - ((F 0) 1)) / 2) - ((F 0) 2)) - (((((F 0) 0) - ((F 0) 1)) / 2) - ((F 0) 2)) / (((F 0) 1) + ((F 0) 2)) * (((F 0) 1) + ((F 0) 2))) ≤ ((F 0) 1)) := px_b1z (of_decide_eq_true c2)
        refine px_PW.steps kt_179.2 3 rfl ?_
        refine px_PW.steps kt_179.2 1 rfl ?_
        refine px_PW.ret kt_179.2 rfl rfl ?_
        have E : s_mmiddle Z F what = ((F 0) 1) := (if_pos c0).trans ((if_neg c1).trans (if_neg c2))
        rw [E]
        exact ⟨rfl, _, _, px_sm.rf, rfl⟩
      · have c2 : 1 ≤ ((((((F 0) 0) - ((F 0) 1)) / 2) - ((F 0) 2)) - (((((F 0) 0) - ((F 0) 1)) / 2) - ((F 0) 2)) / (((F 0) 1) + ((F 0) 2)) * (((F 0) 1) + ((F 0) 2))) ∧ ((((((F 0) 0) - ((F 0) 1)) / 2) - ((F 0) 2)) - (((((F 0) 0) - ((F 0) 1)) / 2) - ((F 0) 2)) / (((F 0) 1) + ((F 0) 2)) * (((F 0) 1) + ((F 0) 2))) ≤ ((F 0) 1) := px_b1n (of_decide_eq_false c2)
        refine px_PW.steps kt_179.2 2 rfl ?_
        refine px_PW.ret kt_179.2 rfl rfl ?_
        have E : s_mmiddle Z F what = ((((((F 0) 0) - ((F 0) 1)) / 2) - ((F 0) 2)) - (((((F 0) 0) - ((F 0) 1)) / 2) - ((F 0) 2)) / (((F 0) 1) + ((F 0) 2)) * (((F 0) 1) + ((F 0) 2))) := (if_pos c0).trans ((if_neg c1).trans (if_pos c2))
        rw [E]
        exact ⟨rfl, _, _, px_sm.rf, rfl⟩
    · have c1 : what = 0 := of_decide_eq_true (px_nf c1)
      refine px_PW.steps kt_179.2 3 rfl ?_
      refine px_PW.steps kt_179.2 1 rfl ?_
      refine px_PW.steps kt_179.2 3 rfl ?_
      refine px_PW.steps kt_179.2 1 rfl ?_
      refine px_PW.steps kt_179.2 9 rfl ?_
      refine px_PW.steps kt_179.2 1 rfl ?_
      refine px_PW.steps kt_179.2 3 rfl ?_
      refine px_PW.steps kt_179.2 1 rfl ?_
      refine px_PW.steps kt_179.2 1 rfl ?_
      refine px_PW.bin0 kt_179.2 rfl hTJ ?_
      refine px_PW.steps kt_179.2 6 rfl ?_
      refine px_PW.steps kt_179.2 1 rfl ?_
      refine px_PW.callS kt_179.2 rfl rfl rfl (cm_117 _ _ _ _) (by decide) (fun v h1 q => ?_)
      obtain ⟨rfl, rfl⟩ := q
      refine px_PW.steps kt_179.2 1 rfl ?_
      refine px_PW.br (fun c3 => ?_) (fun c3 => ?_)
      · have c3 : ¬ (1 ≤ (((((F 0) 0) - ((F 0) 2)) / 2) - ((((F 0) 0) - ((F 0) 2)) / 2) / (((F 0) 1) + ((F 0) 2)) * (((F 0) 1) + ((F 0) 2))) ∧ (((((F 0) 0) - ((F 0) 2)) / 2) - ((((F 0) 0) - ((F 0) 2)) / 2) / (((F 0) 1) + ((F 0) 2)) * (((F 0) 1) + ((F 0) 2))) ≤ ((F 0) 1)) := px_b1z (of_decide_eq_true c3)
        refine px_PW.steps kt_179.2 3 rfl ?_
        refine px_PW.steps kt_179.2 1 rfl ?_
        refine px_PW.ret kt_179.2 rfl rfl ?_
        have E : s_mmiddle Z F what = ((F 0) 1) := (if_pos c0).trans ((if_pos c1).trans (if_neg c3))
        rw [E]
        exact ⟨rfl, _, _, px_sm.rf, rfl⟩
      · have c3 : 1 ≤ (((((F 0) 0) - ((F 0) 2)) / 2) - ((((F 0) 0) - ((F 0) 2)) / 2) / (((F 0) 1) + ((F 0) 2)) * (((F 0) 1) + ((F 0) 2))) ∧ (((((F 0) 0) - ((F 0) 2)) / 2) - ((((F 0) 0) - ((F 0) 2)) / 2) / (((F 0) 1) + ((F 0) 2)) * (((F 0) 1) + ((F 0) 2))) ≤ ((F 0) 1) := px_b1n (of_decide_eq_false c3)
        refine px_PW.steps kt_179.2 2 rfl ?_
        refine px_PW.ret kt_179.2 rfl rfl ?_
        have E : s_mmiddle Z F what = (((((F 0) 0) - ((F 0) 2)) / 2) - ((((F 0) 0) - ((F 0) 2)) / 2) / (((F 0) 1) + ((F 0) 2)) * (((F 0) 1) + ((F 0) 2))) := (if_pos c0).trans ((if_pos c1).trans (if_pos c3))
        rw [E]
        exact ⟨rfl, _, _, px_sm.rf, rfl⟩
  · have c0 : ¬ (0 ≤ what ∧ what ≤ 1) := px_b1z (of_decide_eq_true (px_nf c0))
    refine px_PW.steps kt_179.2 2 rfl ?_
    refine px_PW.callV kt_179.2 rfl rfl rfl rfl (mm_error 1 (by decide)) (by decide) (fun v h1 q => ?_)
    obtain ⟨rfl, rfl⟩ := q
    refine px_PW.ret kt_179.2 rfl rfl ?_
    have E : s_mmiddle Z F what = (-1000000000 - 1) := if_neg c0
    rw [E]
    exact ⟨rfl, _, _, px_sm.err, rfl⟩
def s_mchp (L T : Nat) (j : Nat) : Bool := decide ((L + j) % (T + j) = 0)
def s_mcheatE (L T : Nat) (what : Int32) (x : Option Nat) : Int32 := match x with
  | some j => if what = 0 then nI j else nI ((L + j) / (T + j))
  | none => -1000000000 - 2
def s_mcheat (L T : Nat) (what : Int32) : Int32 := if 0 ≤ what ∧ what ≤ 1 then s_mcheatE L T what (zz_find (s_mchp L T) 10 0) else -1000000000 - 1
theorem m_cheat_loop {Z : Nat → Int32} {F : Nat → Nat → Int32} {L T : Nat} (hTi : F 0 1 = nI T) (hL : F 0 0 = nI L) (hT1 : 1 ≤ T) (hT200 : T ≤ 200) (hL4 : L ≤ 4000) {what : Int32} {Q : Option Value → px_H → Prop} : ∀ (m k : Nat) (o3 : Option Value), k + m = 10 → (∀ j : Nat, j < 10 → zz_find (s_mchp L T) m k = some j → px_PW 1 pc_178 Q 45 [some (.ref 1000), some (.int what), some (.int (nI j)), some (.int (F 0 1 + nI j))] [] ([], px_MH Z F)) → (zz_find (s_mchp L T) m k = none → ∀ o3 : Option Value, px_PW 1 pc_178 Q 70 [some (.ref 1000), some (.int what), some (.int (nI 10)), o3] [] ([], px_MH Z F)) → px_PW 1 pc_178 Q 17 [some (.ref 1000), some (.int what), some (.int (nI k)), o3] [] ([], px_MH Z F)
  | m, k, o3, hk, HF, HE => by
    refine px_PW.steps kt_178.2 3 rfl ?_
    refine px_PW.br (fun c0 => ?_) (fun c0 => ?_)
    · have c0 : 9 < (nI k) := of_decide_eq_true c0
      have c0 : 9 < k := (nI_ltI (a := 9) (b := k) (by omega) (by omega)).mp c0
      obtain rfl : m = 0 := by omega
      obtain rfl : k = 10 := by omega
      exact HE rfl _
    · have c0 : ¬ (9 < (nI k)) := of_decide_eq_false c0
      have c0 : ¬ (9 < k) := fun q => c0 ((nI_ltI (a := 9) (b := k) (by omega) (by omega)).mpr q)
      obtain ⟨m2, rfl⟩ : ∃ m2, m = m2 + 1 := ⟨m - 1, by omega⟩
      refine px_PW.steps kt_178.2 3 rfl ?_
      refine px_PW.steps kt_178.2 1 rfl ?_
      refine px_PW.steps kt_178.2 6 rfl ?_
      refine px_PW.steps kt_178.2 1 rfl ?_
      refine px_PW.steps kt_178.2 3 rfl ?_
      refine px_PW.remN kt_178.2 rfl (a := L + k) (b := T + k) (show F 0 0 + nI k = nI (L + k) from by rw [hL, nI_add]) (show F 0 1 + nI k = nI (T + k) from by rw [hTi, nI_add]) (by omega) (by omega) (by omega) ?_
      refine px_PW.steps kt_178.2 1 rfl ?_
      refine px_PW.br (fun c1 => ?_) (fun c1 => ?_)
      · have c1 : ¬ ((nI ((L + k) % (T + k))) = 0) := of_decide_eq_false (px_nt c1)
        have hlt : (L + k) % (T + k) < T + k := Nat.mod_lt _ (by omega)
        have c1 : ¬ ((L + k) % (T + k) = 0) := fun q => c1 (by rw [q]; rfl)
        refine px_PW.steps kt_178.2 2 rfl ?_
        have e : ¬ (s_mchp L T k = true) := fun q => c1 (of_decide_eq_true q)
        have g := m_cheat_loop hTi hL hT1 hT200 hL4 (Z := Z) (Q := Q) (what := what) m2 (k + 1) (some (.int (F 0 1 + nI k))) (by omega) (fun j hj9 hj => HF j hj9 ((zz_find_n e).trans hj)) (fun hj => HE ((zz_find_n e).trans hj))
        rw [nI_succ] at g
        exact g
      · have c1 : (nI ((L + k) % (T + k))) = 0 := of_decide_eq_true (px_nf c1)
        have hlt : (L + k) % (T + k) < T + k := Nat.mod_lt _ (by omega)
        have c1 : (L + k) % (T + k) = 0 := (nI_eq (b := 0) (by omega) (by omega)).mp c1
        exact HF k (by omega) (zz_find_y (show s_mchp L T k = true from decide_eq_true c1))
theorem kc_mcheat {Z : Nat → Int32} {F : Nat → Nat → Int32} {L T : Nat} (hTi : F 0 1 = nI T) (hL : F 0 0 = nI L) (hT1 : 1 ≤ T) (hT200 : T ≤ 200) (hL4 : L ≤ 4000) (what : Int32) : px_PM 2 178 [.ref 1000, .int what] ([], px_MH Z F) (fun r h' => r = some (.int (s_mcheat L T what)) ∧ ∃ Z' F', px_sm Z F Z' F' ∧ h' = ([], px_MH Z' F')) := by
  refine px_PM.start (nL := 4) (code := pc_178) rfl rfl ?_
  refine px_PW.steps kt_178.2 3 rfl ?_
  refine px_PW.callS kt_178.2 rfl rfl rfl (cm_117 _ _ _ _) (by decide) (fun v h1 q => ?_)
  obtain ⟨rfl, rfl⟩ := q
  refine px_PW.steps kt_178.2 1 rfl ?_
  refine px_PW.br (fun c0 => ?_) (fun c0 => ?_)
  · have c0 : 0 ≤ what ∧ what ≤ 1 := px_b1n (of_decide_eq_false (px_nt c0))
    refine px_PW.steps kt_178.2 2 rfl ?_
    refine m_cheat_loop hTi hL hT1 hT200 hL4 10 0 none rfl (fun j hj9 hj => ?_) (fun hj o3 => ?_)
    · refine px_PW.steps kt_178.2 2 rfl ?_
      refine px_PW.br (fun c5 => ?_) (fun c5 => ?_)
      · have c5 : ¬ (what = 0) := of_decide_eq_false (px_nt c5)
        refine px_PW.steps kt_178.2 3 rfl ?_
        refine px_PW.steps kt_178.2 1 rfl ?_
        refine px_PW.steps kt_178.2 3 rfl ?_
        refine px_PW.divN kt_178.2 rfl (a := L + j) (b := T + j) (show F 0 0 + nI j = nI (L + j) from by rw [hL, nI_add]) (show F 0 1 + nI j = nI (T + j) from by rw [hTi, nI_add]) (by omega) (by omega) (by omega) ?_
        refine px_PW.ret kt_178.2 rfl rfl ?_
        have E : s_mcheat L T what = (nI ((L + j) / (T + j))) := (if_pos c0).trans (by rw [hj]; exact if_neg c5)
        rw [E]
        exact ⟨rfl, _, _, px_sm.rf, rfl⟩
      · have c5 : what = 0 := of_decide_eq_true (px_nf c5)
        refine px_PW.steps kt_178.2 2 rfl ?_
        refine px_PW.ret kt_178.2 rfl rfl ?_
        have E : s_mcheat L T what = (nI j) := (if_pos c0).trans (by rw [hj]; exact if_pos c5)
        rw [E]
        exact ⟨rfl, _, _, px_sm.rf, rfl⟩
    · refine px_PW.steps kt_178.2 2 rfl ?_
      refine px_PW.callV kt_178.2 rfl rfl rfl rfl (mm_error 2 (by decide)) (by decide) (fun v h1 q => ?_)
      obtain ⟨rfl, rfl⟩ := q
      refine px_PW.ret kt_178.2 rfl rfl ?_
      have E : s_mcheat L T what = (-1000000000 - 2) := (if_pos c0).trans (by rw [hj]; exact rfl)
      rw [E]
      exact ⟨rfl, _, _, px_sm.err, rfl⟩
  · have c0 : ¬ (0 ≤ what ∧ what ≤ 1) := px_b1z (of_decide_eq_true (px_nf c0))
    refine px_PW.steps kt_178.2 2 rfl ?_
    refine px_PW.callV kt_178.2 rfl rfl rfl rfl (mm_error 1 (by decide)) (by decide) (fun v h1 q => ?_)
    obtain ⟨rfl, rfl⟩ := q
    refine px_PW.ret kt_178.2 rfl rfl ?_
    have E : s_mcheat L T what = (-1000000000 - 1) := if_neg c0
    rw [E]
    exact ⟨rfl, _, _, px_sm.err, rfl⟩
theorem m_div_loop {a0 b0 : Int32} {h : px_H} {Q : Option Value → px_H → Prop} : ∀ (y x : Nat) (o4 : Option Value), x < 1000 → y < 1000 → Q (some (.int (nI (Nat.gcd x y)))) h → px_PW 0 pc_180 Q 4 [some (.int a0), some (.int b0), some (.int (nI x)), some (.int (nI y)), o4] [] h
  | y, x, o4, hx, hy, H => by
    refine px_PW.steps kt_180.2 2 rfl ?_
    refine px_PW.br (fun c0 => ?_) (fun c0 => ?_)
    · have c0 : (nI y) = 0 := of_decide_eq_true c0
      have c0 : y = 0 := (nI_eq (b := 0) (by omega) (by omega)).mp c0
      refine px_PW.steps kt_180.2 1 rfl ?_
      refine px_PW.ret kt_180.2 rfl rfl ?_
      rw [c0, Nat.gcd_zero_right] at H
      exact H
    · have c0 : ¬ ((nI y) = 0) := of_decide_eq_false c0
      have c0 : ¬ (y = 0) := fun q => c0 (by rw [q]; rfl)
      refine px_PW.steps kt_180.2 2 rfl ?_
      have hlt : x % y < y := Nat.mod_lt _ (by omega)
      refine px_PW.remN kt_180.2 rfl (a := x) (b := y) rfl rfl (by omega) (by omega) (by omega) ?_
      refine px_PW.steps kt_180.2 6 rfl ?_
      exact m_div_loop (x % y) y _ (by omega) (by omega) (by rw [Nat.gcd_comm, ← Nat.gcd_rec, Nat.gcd_comm]; exact H)
  termination_by y => y
theorem mm_div {x y : Nat} (hx : x < 1000) (hy : y < 1000) {a b : Int32} (ha : a = nI x) (hb : b = nI y) (h : px_H) : px_PM 1 180 [.int a, .int b] h (fun r h' => r = some (.int (nI (Nat.gcd x y))) ∧ h' = h) := by
  subst ha hb
  refine px_PM.start (nL := 5) (code := pc_180) rfl rfl ?_
  refine px_PW.steps kt_180.2 4 rfl ?_
  exact m_div_loop y x none hx hy ⟨rfl, rfl⟩
end
/-! part 39.msheet -/
section
def s_mbyte (word : Int64) (k : Nat) : Int32 := ((word >>> ((8 * nI k).toInt64 &&& 63)) &&& 255).toInt32
def zz_fd (word : Int64) (f : Nat → Int32) (P k : Nat) : Nat → Int32 := upd (zz_pl (s_mbyte word) f (286 + P) k) 8 (nI (P + k))
theorem zz_fd_0 {word : Int64} {f : Nat → Int32} {P : Nat} (hP : f 8 = nI P) : zz_fd word f P 0 = f := by
  unfold zz_fd
  rw [zz_pl_0, Nat.add_zero, ← hP, zz_ui]
theorem zz_fd_s {word : Int64} {f : Nat → Int32} {P k : Nat} : upd (upd (zz_fd word f P k) (286 + (P + k)) (s_mbyte word k)) 8 (nI (P + k) + 1) = zz_fd word f P (k + 1) := by
  unfold zz_fd
  rw [← zz_pl_s, ← Nat.add_assoc 286 P k, show nI (P + k) + 1 = nI (P + (k + 1)) from (nI_succ (P + k)).symm]
  funext j
  unfold upd
  by_cases h : j = 8
  · rw [if_pos h, if_pos h]
  · rw [if_neg h, if_neg h, if_neg h]
theorem px_in8m {n : Int32} {P : Nat} (hP60 : P ≤ 60) (a : 1 ≤ n ∧ n ≤ 8) (c : nI P + n ≤ 60) : n = nI n.toNatClampNeg ∧ n.toNatClampNeg ≤ 8 ∧ P + n.toNatClampNeg ≤ 60 := by
  have h0 : ¬ n < 0 := fun q => Int32.not_lt.mpr a.1 (Int32.lt_trans q (by decide))
  obtain ⟨k, hk, rfl⟩ := nI_of h0
  have b := a.2
  rw [show (8 : Int32) = nI 8 from rfl, nI_leI (by omega) (by omega)] at b
  rw [nI_add, show (60 : Int32) = nI 60 from rfl, nI_leI (by omega) (by omega)] at c
  rw [nI_clamp (by omega)]
  exact ⟨rfl, b, c⟩
theorem m_feed_loop {Z f : Nat → Int32} {F : Nat → Nat → Int32} {P K : Nat} (hK : P + K ≤ 60) (hK8 : K ≤ 8) (word : Int64) {Q : Option Value → px_H → Prop} : ∀ (m k : Nat), k + m = K → px_PW 1 pc_125 Q 90 [some (.ref 1000), some (.long word), none, some (.int (nI K)), some (.int (nI K))] [] ([], px_MH Z (va_up F 0 (zz_fd word f P K))) → px_PW 1 pc_125 Q 39 [some (.ref 1000), some (.long word), none, some (.int (nI K)), some (.int (nI k))] [] ([], px_MH Z (va_up F 0 (zz_fd word f P k)))
  | m, k, hk, H => by
    refine px_PW.steps kt_125.2 3 rfl ?_
    refine px_PW.br (fun c0 => ?_) (fun c0 => ?_)
    · have c0 : (nI K) ≤ (nI k) := of_decide_eq_true c0
      have c0 : K ≤ k := (nI_leI (a := K) (b := k) (by omega) (by omega)).mp c0
      obtain rfl : m = 0 := by omega
      obtain rfl : k = K := by omega
      exact H
    · have c0 : ¬ ((nI K) ≤ (nI k)) := of_decide_eq_false c0
      have c0 : ¬ (K ≤ k) := fun q => c0 ((nI_leI (a := K) (b := k) (by omega) (by omega)).mpr q)
      obtain ⟨m2, rfl⟩ : ∃ m2, m = m2 + 1 := ⟨m - 1, by omega⟩
      refine px_PW.steps kt_125.2 6 rfl ?_
      refine px_PW.steps kt_125.2 1 rfl ?_
      refine px_PW.steps kt_125.2 9 rfl ?_
      refine mc_0 kt_125.2 rfl (n := 286 + (P + k)) (show 286 + zz_fd word f P k 8 = nI (286 + (P + k)) from by rw [show zz_fd word f P k 8 = nI (P + k) from rfl]; exact nI_add 286 (P + k)) (by omega) ?_
      refine px_PW.steps kt_125.2 4 rfl ?_
      refine px_PW.aldN kt_125.2 rfl rfl (n := 8) rfl (by decide) ?_
      rw [px_up_self, px_upd_ne _ _ (show 8 ≠ 286 + (P + k) by omega)]
      refine px_PW.steps kt_125.2 2 rfl ?_
      refine mc_0 kt_125.2 rfl (n := 8) rfl (by decide) ?_
      refine px_PW.steps kt_125.2 2 rfl ?_
      have g := m_feed_loop hK hK8 word (Z := Z) (f := f) (F := F) (Q := Q) m2 (k + 1) (by omega) H
      rw [← zz_fd_s, nI_succ k] at g
      exact g
def s_mfeed (P : Nat) (Z : Nat → Int32) (F : Nat → Nat → Int32) (word : Int64) (n : Int32) : Int32 × (Nat → Int32) × (Nat → Nat → Int32) := (if 1 ≤ n ∧ n ≤ 8 then (if (((F 0) 8) + n) ≤ 60 then (((zz_fd word (F 0) P n.toNatClampNeg) 8), Z, (va_up F 0 (zz_fd word (F 0) P n.toNatClampNeg))) else ((-1000000000 - 4), Z, F)) else ((-1000000000 - 1), Z, F))
theorem kc_mfeed {Z : Nat → Int32} {F : Nat → Nat → Int32} {P : Nat} (hP : F 0 8 = nI P) (hP60 : P ≤ 60) (word : Int64) (n : Int32) : px_PM 2 125 [.ref 1000, .long word, .int n] ([], px_MH Z F) (fun r h' => r = some (.int (s_mfeed P Z F word n).1) ∧ ∃ Z' F', px_sm (s_mfeed P Z F word n).2.1 (s_mfeed P Z F word n).2.2 Z' F' ∧ h' = ([], px_MH Z' F')) := by
  refine px_PM.start (nL := 5) (code := pc_125) rfl rfl ?_
  refine px_PW.steps kt_125.2 3 rfl ?_
  refine px_PW.callS kt_125.2 rfl rfl rfl (cm_117 _ _ _ _) (by decide) (fun v h1 q => ?_)
  obtain ⟨rfl, rfl⟩ := q
  refine px_PW.steps kt_125.2 1 rfl ?_
  refine px_PW.br (fun c0 => ?_) (fun c0 => ?_)
  · have c0 : 1 ≤ n ∧ n ≤ 8 := px_b1n (of_decide_eq_false (px_nt c0))
    refine px_PW.steps kt_125.2 3 rfl ?_
    refine px_PW.steps kt_125.2 1 rfl ?_
    refine px_PW.steps kt_125.2 4 rfl ?_
    refine px_PW.br (fun c1 => ?_) (fun c1 => ?_)
    · have c1 : (((F 0) 8) + n) ≤ 60 := of_decide_eq_true c1
      refine px_PW.steps kt_125.2 2 rfl ?_
      have hn := px_in8m hP60 c0 (by rw [← hP]; exact c1)
      refine px_PW.lc (lv' := [some (.ref 1000), some (.long word), none, some (.int (nI n.toNatClampNeg)), some (.int (nI 0))]) (by rw [← hn.1]; rfl) ?_
      refine px_PW.hp (h' := ([], px_MH Z (va_up F 0 (zz_fd word (F 0) P 0)))) (by rw [zz_fd_0 hP, px_up_id]) ?_
      refine m_feed_loop hn.2.2 hn.2.1 word n.toNatClampNeg 0 (by omega) ?_
      refine px_PW.steps kt_125.2 3 rfl ?_
      refine px_PW.steps kt_125.2 1 rfl ?_
      refine px_PW.ret kt_125.2 rfl rfl ?_
      have E : s_mfeed P Z F word n = (((zz_fd word (F 0) P n.toNatClampNeg) 8), Z, (va_up F 0 (zz_fd word (F 0) P n.toNatClampNeg))) := (if_pos c0).trans (if_pos c1)
      rw [E]
      exact ⟨rfl, _, _, px_sm.rf, rfl⟩
    · have c1 : ¬ ((((F 0) 8) + n) ≤ 60) := of_decide_eq_false c1
      refine px_PW.steps kt_125.2 2 rfl ?_
      refine px_PW.callV kt_125.2 rfl rfl rfl rfl (mm_error 4 (by decide)) (by decide) (fun v h1 q => ?_)
      obtain ⟨rfl, rfl⟩ := q
      refine px_PW.ret kt_125.2 rfl rfl ?_
      have E : s_mfeed P Z F word n = ((-1000000000 - 4), Z, F) := (if_pos c0).trans (if_neg c1)
      rw [E]
      exact ⟨rfl, _, _, px_sm.err, rfl⟩
  · have c0 : ¬ (1 ≤ n ∧ n ≤ 8) := px_b1z (of_decide_eq_true (px_nf c0))
    refine px_PW.steps kt_125.2 2 rfl ?_
    refine px_PW.callV kt_125.2 rfl rfl rfl rfl (mm_error 1 (by decide)) (by decide) (fun v h1 q => ?_)
    obtain ⟨rfl, rfl⟩ := q
    refine px_PW.ret kt_125.2 rfl rfl ?_
    have E : s_mfeed P Z F word n = ((-1000000000 - 1), Z, F) := if_neg c0
    rw [E]
    exact ⟨rfl, _, _, px_sm.err, rfl⟩
theorem mm_above (k : Int32) (h : px_H) : px_PM 1 185 [.int k] h (fun r h' => r = some (.int (s_above k)) ∧ h' = h) := by
  refine px_PM.start (nL := 1) (code := pc_185) rfl rfl ?_
  refine px_PW.steps kt_185.2 3 rfl ?_
  refine px_PW.br (fun c0 => ?_) (fun c0 => ?_)
  · have c0 : ¬ (k = 4) := of_decide_eq_false (px_nt c0)
    refine px_PW.steps kt_185.2 3 rfl ?_
    refine px_PW.br (fun c1 => ?_) (fun c1 => ?_)
    · have c1 : ¬ (k = 5) := of_decide_eq_false (px_nt c1)
      refine px_PW.steps kt_185.2 3 rfl ?_
      refine px_PW.br (fun c2 => ?_) (fun c2 => ?_)
      · have c2 : ¬ (k = 6) := of_decide_eq_false (px_nt c2)
        refine px_PW.steps kt_185.2 1 rfl ?_
        refine px_PW.ret kt_185.2 rfl rfl ?_
        exact ⟨congrArg (fun z => some (Value.int z)) (show s_above k = 0 from (if_neg c0).trans ((if_neg c1).trans (if_neg c2))).symm, rfl⟩
      · have c2 : k = 6 := of_decide_eq_true (px_nf c2)
        refine px_PW.steps kt_185.2 2 rfl ?_
        refine px_PW.ret kt_185.2 rfl rfl ?_
        exact ⟨congrArg (fun z => some (Value.int z)) (show s_above k = 3 from (if_neg c0).trans ((if_neg c1).trans (if_pos c2))).symm, rfl⟩
    · have c1 : k = 5 := of_decide_eq_true (px_nf c1)
      refine px_PW.steps kt_185.2 2 rfl ?_
      refine px_PW.ret kt_185.2 rfl rfl ?_
      exact ⟨congrArg (fun z => some (Value.int z)) (show s_above k = 2 from (if_neg c0).trans (if_pos c1)).symm, rfl⟩
  · have c0 : k = 4 := of_decide_eq_true (px_nf c0)
    refine px_PW.steps kt_185.2 2 rfl ?_
    refine px_PW.ret kt_185.2 rfl rfl ?_
    exact ⟨congrArg (fun z => some (Value.int z)) (show s_above k = 1 from if_pos c0).symm, rfl⟩
/-- up from a kind to the one asked, or to THING -/
def s_mup (kind : Int32) : Nat → Int32 → Int32
  | 0, is => is
  | m + 1, is => if is = kind then is else if is = 0 then is else s_mup kind m (s_above is)
theorem s_above_k : ∀ K : Nat, K < 7 → s_above (nI K) = 0 ∨ s_above (s_above (nI K)) = 0 := by
  have h : ∀ K : Fin 7, s_above (nI K.1) = 0 ∨ s_above (s_above (nI K.1)) = 0 := by decide +kernel
  exact fun K hK => h ⟨K, hK⟩
theorem m_as_loop {Z : Nat → Int32} {F : Nat → Nat → Int32} {thing kind : Int32} {Q : Option Value → px_H → Prop} : ∀ (m : Nat) (is : Int32), (m = 0 → is = 0) → (m = 1 → s_above is = 0) → (m = 2 → s_above is = 0 ∨ s_above (s_above is) = 0) → m ≤ 2 → px_PW 2 pc_165 Q 48 [some (.ref 1000), some (.int thing), some (.int kind), some (.int (s_mup kind m is))] [] ([], px_MH Z F) → px_PW 2 pc_165 Q 31 [some (.ref 1000), some (.int thing), some (.int kind), some (.int is)] [] ([], px_MH Z F)
  | m, is, h0, h1, h2, hm, H => by
    refine px_PW.steps kt_165.2 3 rfl ?_
    refine px_PW.br (fun c0 => ?_) (fun c0 => ?_)
    · have c0 : is = kind := of_decide_eq_true c0
      have e : s_mup kind m is = is := by
        cases m with
        | zero => rfl
        | succ n => exact if_pos c0
      rw [e] at H
      exact H
    · have c0 : ¬ (is = kind) := of_decide_eq_false c0
      refine px_PW.steps kt_165.2 2 rfl ?_
      refine px_PW.br (fun c1 => ?_) (fun c1 => ?_)
      · have c1 : is = 0 := of_decide_eq_true c1
        have e : s_mup kind m is = is := by
          cases m with
          | zero => rfl
          | succ n => exact (if_neg c0).trans (if_pos c1)
        rw [e] at H
        exact H
      · have c1 : ¬ (is = 0) := of_decide_eq_false c1
        refine px_PW.steps kt_165.2 1 rfl ?_
        refine px_PW.callS kt_165.2 rfl rfl rfl (mm_above _ _) (by decide) (fun v h1 q => ?_)
        obtain ⟨rfl, rfl⟩ := q
        refine px_PW.steps kt_165.2 2 rfl ?_
        cases m with
        | zero => exact absurd (h0 rfl) c1
        | succ n =>
          have e : s_mup kind (n + 1) is = s_mup kind n (s_above is) := (if_neg c0).trans (if_neg c1)
          rw [e] at H
          refine m_as_loop n (s_above is) (fun q => h1 (by omega)) (fun q => ?_) (fun q => by omega) (by omega) H
          rcases h2 (by omega) with r | r
          · rw [r]; rfl
          · exact r
def s_mas (Z : Nat → Int32) (F : Nat → Nat → Int32) (thing : Int32) (kind : Int32) : Int32 := (if 0 ≤ thing ∧ thing ≤ ((F 0) 10) - 1 then (if 0 ≤ kind ∧ kind ≤ 6 then (if (s_mup kind 2 (F 0 (12 + 4 * thing.toNatClampNeg + 0))) = kind then ((F 0) (12 + 4 * thing.toNatClampNeg + 1)) else (-1000000000 - 5)) else (-1000000000 - 1)) else (-1000000000 - 1))
theorem kc_mas {Z : Nat → Int32} {F : Nat → Nat → Int32} {M : Nat} (hM : F 0 10 = nI M) (hM6 : M ≤ 6) (hkd : ∀ n : Nat, n < M → ∃ kd : Nat, kd < 7 ∧ F 0 (12 + 4 * n + 0) = nI kd) (thing : Int32) (kind : Int32) : px_PM 3 165 [.ref 1000, .int thing, .int kind] ([], px_MH Z F) (fun r h' => r = some (.int (s_mas Z F thing kind)) ∧ ∃ Z' F', px_sm Z F Z' F' ∧ h' = ([], px_MH Z' F')) := by
  refine px_PM.start (nL := 4) (code := pc_165) rfl rfl ?_
  refine px_PW.steps kt_165.2 2 rfl ?_
  refine px_PW.callV kt_165.2 rfl rfl rfl rfl (mm_isThing _) (by decide) (fun v h1 q => ?_)
  obtain ⟨rfl, rfl⟩ := q
  refine px_PW.steps kt_165.2 1 rfl ?_
  refine px_PW.br (fun c0 => ?_) (fun c0 => ?_)
  · have c0 : ¬ (0 ≤ thing ∧ thing ≤ ((F 0) 10) - 1) := px_b1z (of_decide_eq_true c0)
    refine px_PW.steps kt_165.2 2 rfl ?_
    refine px_PW.callV kt_165.2 rfl rfl rfl rfl (mm_error 1 (by decide)) (by decide) (fun v h1 q => ?_)
    obtain ⟨rfl, rfl⟩ := q
    refine px_PW.ret kt_165.2 rfl rfl ?_
    have E : s_mas Z F thing kind = (-1000000000 - 1) := if_neg c0
    rw [E]
    exact ⟨rfl, _, _, px_sm.err, rfl⟩
  · have c0 : 0 ≤ thing ∧ thing ≤ ((F 0) 10) - 1 := px_b1n (of_decide_eq_false c0)
    refine px_PW.steps kt_165.2 3 rfl ?_
    refine px_PW.callS kt_165.2 rfl rfl rfl (cm_117 _ _ _ _) (by decide) (fun v h1 q => ?_)
    obtain ⟨rfl, rfl⟩ := q
    refine px_PW.steps kt_165.2 1 rfl ?_
    refine px_PW.br (fun c1 => ?_) (fun c1 => ?_)
    · have c1 : 0 ≤ kind ∧ kind ≤ 6 := px_b1n (of_decide_eq_false (px_nt c1))
      refine px_PW.steps kt_165.2 3 rfl ?_
      refine px_PW.callV kt_165.2 rfl rfl rfl rfl (mm_its (n := thing.toNatClampNeg) (k := 0) (px_thN hM hM6 c0).1 rfl (px_thN hM hM6 c0).2.2 (by omega)) (by decide) (fun v h1 q => ?_)
      obtain ⟨rfl, rfl⟩ := q
      refine px_PW.steps kt_165.2 1 rfl ?_
      refine m_as_loop 2 (F 0 (12 + 4 * thing.toNatClampNeg + 0)) (fun q => absurd q (by decide)) (fun q => absurd q (by decide)) (fun _ => by obtain ⟨kd, h7, e⟩ := hkd _ (px_thN hM hM6 c0).2.1; rw [e]; exact s_above_k kd h7) (Nat.le_refl 2) ?_
      refine px_PW.steps kt_165.2 3 rfl ?_
      refine px_PW.br (fun c2 => ?_) (fun c2 => ?_)
      · have c2 : ¬ ((s_mup kind 2 (F 0 (12 + 4 * thing.toNatClampNeg + 0))) = kind) := of_decide_eq_false (px_nt c2)
        refine px_PW.steps kt_165.2 2 rfl ?_
        refine px_PW.callV kt_165.2 rfl rfl rfl rfl (mm_error 5 (by decide)) (by decide) (fun v h1 q => ?_)
        obtain ⟨rfl, rfl⟩ := q
        refine px_PW.ret kt_165.2 rfl rfl ?_
        have E : s_mas Z F thing kind = (-1000000000 - 5) := (if_pos c0).trans ((if_pos c1).trans (if_neg c2))
        rw [E]
        exact ⟨rfl, _, _, px_sm.err, rfl⟩
      · have c2 : (s_mup kind 2 (F 0 (12 + 4 * thing.toNatClampNeg + 0))) = kind := of_decide_eq_true (px_nf c2)
        refine px_PW.steps kt_165.2 3 rfl ?_
        refine px_PW.callV kt_165.2 rfl rfl rfl rfl (mm_its (n := thing.toNatClampNeg) (k := 1) (px_thN hM hM6 c0).1 rfl (px_thN hM hM6 c0).2.2 (by omega)) (by decide) (fun v h1 q => ?_)
        obtain ⟨rfl, rfl⟩ := q
        refine px_PW.steps kt_165.2 1 rfl ?_
        refine px_PW.ret kt_165.2 rfl rfl ?_
        have E : s_mas Z F thing kind = ((F 0) (12 + 4 * thing.toNatClampNeg + 1)) := (if_pos c0).trans ((if_pos c1).trans (if_pos c2))
        rw [E]
        exact ⟨rfl, _, _, px_sm.rf, rfl⟩
    · have c1 : ¬ (0 ≤ kind ∧ kind ≤ 6) := px_b1z (of_decide_eq_true (px_nf c1))
      refine px_PW.steps kt_165.2 2 rfl ?_
      refine px_PW.callV kt_165.2 rfl rfl rfl rfl (mm_error 1 (by decide)) (by decide) (fun v h1 q => ?_)
      obtain ⟨rfl, rfl⟩ := q
      refine px_PW.ret kt_165.2 rfl rfl ?_
      have E : s_mas Z F thing kind = (-1000000000 - 1) := (if_pos c0).trans (if_neg c1)
      rw [E]
      exact ⟨rfl, _, _, px_sm.err, rfl⟩
theorem px_inS {x i : Int32} {S : Nat} (hS : x = nI S) (hb : S < 1000) (c : 0 ≤ i ∧ i ≤ x - 1) : i = nI i.toNatClampNeg ∧ i.toNatClampNeg < S := by
  obtain ⟨n, hn, rfl⟩ := nI_of (Int32.not_lt.mpr c.1)
  have c2 := c.2
  rw [nI_clamp (by omega)]
  subst hS
  cases S with
  | zero =>
    have h1 : nI 0 - 1 = (-1 : Int32) := by decide
    rw [h1, Int32.le_iff_toInt_le, nI_toInt (by omega)] at c2
    have h2 : (-1 : Int32).toInt = -1 := by decide
    omega
  | succ S =>
    rw [nI_pred, nI_leI (by omega) (by omega)] at c2
    exact ⟨rfl, by omega⟩
theorem px_ixS {i : Int32} {k n : Nat} (hi : i = nI n) : 24 * nI k + i = nI (24 * k + n) := by
  subst hi
  rw [show (24 : Int32) = nI 24 from rfl, zz_mul, nI_add]
def s_mput (Z : Nat → Int32) (F : Nat → Nat → Int32) (k : Nat) (i : Int32) (v : Int32) : Int32 × (Nat → Int32) × (Nat → Nat → Int32) := (if ((F 11) k) = 0 then ((-1000000000 - 2), Z, F) else (if 0 ≤ i ∧ i ≤ (((F 12) k) - 1) then (1, Z, (va_up F 13 (upd (F 13) (24 * k + i.toNatClampNeg) ((v <<< ((32 - ((F 11) k)) &&& 31)) >>> ((32 - ((F 11) k)) &&& 31))))) else ((-1000000000 - 1), Z, F)))
theorem kc_mput {Z : Nat → Int32} {F : Nat → Nat → Int32}  (k : Nat) (i : Int32) (v : Int32) (hk : k < 4) {S : Nat} (hS : F 12 k = nI S) (hS24 : S ≤ 24) : px_PM 3 196 [.ref 1000, .int (nI k), .int i, .int v] ([], px_MH Z F) (fun r h' => r = some (.int (s_mput Z F k i v).1) ∧ ∃ Z' F', px_sm (s_mput Z F k i v).2.1 (s_mput Z F k i v).2.2 Z' F' ∧ h' = ([], px_MH Z' F')) := by
  refine px_PM.start (nL := 5) (code := pc_196) rfl rfl ?_
  refine px_PW.steps kt_196.2 1 rfl ?_
  refine px_PW.callS kt_196.2 rfl rfl rfl (mm_isSheet _ _) (by decide) (fun v h1 q => ?_)
  obtain ⟨rfl, rfl⟩ := q
  refine px_PW.steps kt_196.2 1 rfl ?_
  refine px_PW.br (fun c0 => ?_) (fun c0 => ?_)
  · have c0 : 0 ≤ (nI k) ∧ (nI k) ≤ 3 := px_b1n (of_decide_eq_false (px_nt c0))
    refine px_PW.steps kt_196.2 3 rfl ?_
    refine px_PW.aldN kt_196.2 rfl rfl (n := k) rfl hk ?_
    refine px_PW.steps kt_196.2 1 rfl ?_
    refine px_PW.br (fun c1 => ?_) (fun c1 => ?_)
    · have c1 : ¬ (((F 11) k) = 0) := of_decide_eq_false (px_nt c1)
      refine px_PW.steps kt_196.2 5 rfl ?_
      refine px_PW.aldN kt_196.2 rfl rfl (n := k) rfl hk ?_
      refine px_PW.steps kt_196.2 2 rfl ?_
      refine px_PW.callS kt_196.2 rfl rfl rfl (cm_117 _ _ _ _) (by decide) (fun v h1 q => ?_)
      obtain ⟨rfl, rfl⟩ := q
      refine px_PW.steps kt_196.2 1 rfl ?_
      refine px_PW.br (fun c2 => ?_) (fun c2 => ?_)
      · have c2 : 0 ≤ i ∧ i ≤ (((F 12) k) - 1) := px_b1n (of_decide_eq_false (px_nt c2))
        refine px_PW.steps kt_196.2 4 rfl ?_
        refine px_PW.aldN kt_196.2 rfl rfl (n := k) rfl hk ?_
        refine px_PW.steps kt_196.2 14 rfl ?_
        refine ms_13 kt_196.2 rfl (n := 24 * k + i.toNatClampNeg) (px_ixS (px_inS hS (by omega) c2).1) (by have := (px_inS hS (by omega) c2).2; omega) ?_
        refine px_PW.steps kt_196.2 1 rfl ?_
        refine px_PW.ret kt_196.2 rfl rfl ?_
        have E : s_mput Z F k i v = (1, Z, (va_up F 13 (upd (F 13) (24 * k + i.toNatClampNeg) ((v <<< ((32 - ((F 11) k)) &&& 31)) >>> ((32 - ((F 11) k)) &&& 31))))) := (if_neg c1).trans (if_pos c2)
        rw [E]
        exact ⟨rfl, _, _, px_sm.rf, rfl⟩
      · have c2 : ¬ (0 ≤ i ∧ i ≤ (((F 12) k) - 1)) := px_b1z (of_decide_eq_true (px_nf c2))
        refine px_PW.steps kt_196.2 2 rfl ?_
        refine px_PW.callV kt_196.2 rfl rfl rfl rfl (mm_error 1 (by decide)) (by decide) (fun v h1 q => ?_)
        obtain ⟨rfl, rfl⟩ := q
        refine px_PW.ret kt_196.2 rfl rfl ?_
        have E : s_mput Z F k i v = ((-1000000000 - 1), Z, F) := (if_neg c1).trans (if_neg c2)
        rw [E]
        exact ⟨rfl, _, _, px_sm.err, rfl⟩
    · have c1 : ((F 11) k) = 0 := of_decide_eq_true (px_nf c1)
      refine px_PW.steps kt_196.2 2 rfl ?_
      refine px_PW.callV kt_196.2 rfl rfl rfl rfl (mm_error 2 (by decide)) (by decide) (fun v h1 q => ?_)
      obtain ⟨rfl, rfl⟩ := q
      refine px_PW.ret kt_196.2 rfl rfl ?_
      have E : s_mput Z F k i v = ((-1000000000 - 2), Z, F) := if_pos c1
      rw [E]
      exact ⟨rfl, _, _, px_sm.err, rfl⟩
  · have c0 : ¬ (0 ≤ (nI k) ∧ (nI k) ≤ 3) := px_b1z (of_decide_eq_true (px_nf c0))
    exact absurd (px_sh_ok hk) c0
def s_mputB (Z : Nat → Int32) (F : Nat → Nat → Int32) (sheet : Int32) (i : Int32) (v : Int32) : Int32 × (Nat → Int32) × (Nat → Nat → Int32) := ((-1000000000 - 1), Z, F)
theorem kc_mputB {Z : Nat → Int32} {F : Nat → Nat → Int32}  (sheet : Int32) (i : Int32) (v : Int32) (hb : sheet < 0 ∨ 4 ≤ sheet) : px_PM 3 196 [.ref 1000, .int sheet, .int i, .int v] ([], px_MH Z F) (fun r h' => r = some (.int (s_mputB Z F sheet i v).1) ∧ ∃ Z' F', px_sm (s_mputB Z F sheet i v).2.1 (s_mputB Z F sheet i v).2.2 Z' F' ∧ h' = ([], px_MH Z' F')) := by
  refine px_PM.start (nL := 5) (code := pc_196) rfl rfl ?_
  refine px_PW.steps kt_196.2 1 rfl ?_
  refine px_PW.callS kt_196.2 rfl rfl rfl (mm_isSheet _ _) (by decide) (fun v h1 q => ?_)
  obtain ⟨rfl, rfl⟩ := q
  refine px_PW.steps kt_196.2 1 rfl ?_
  refine px_PW.br (fun c0 => ?_) (fun c0 => ?_)
  · have c0 : 0 ≤ sheet ∧ sheet ≤ 3 := px_b1n (of_decide_eq_false (px_nt c0))
    exact absurd c0 (px_sh_no hb)
  · have c0 : ¬ (0 ≤ sheet ∧ sheet ≤ 3) := px_b1z (of_decide_eq_true (px_nf c0))
    refine px_PW.steps kt_196.2 2 rfl ?_
    refine px_PW.callV kt_196.2 rfl rfl rfl rfl (mm_error 1 (by decide)) (by decide) (fun v h1 q => ?_)
    obtain ⟨rfl, rfl⟩ := q
    refine px_PW.ret kt_196.2 rfl rfl ?_
    have E : s_mputB Z F sheet i v = ((-1000000000 - 1), Z, F) := rfl
    rw [E]
    exact ⟨rfl, _, _, px_sm.err, rfl⟩
theorem m_sheet_loop {Z g : Nat → Int32} {F : Nat → Nat → Int32} {k : Nat} (hk : k < 4) {bits n : Int32} {Q : Option Value → px_H → Prop} : ∀ (m j : Nat), j + m = 24 → px_PW 2 pc_195 Q 116 [some (.ref 1000), some (.int (nI k)), some (.int bits), some (.int n), some (.int (nI 24))] [] ([], px_MH Z (va_up F 13 (zz_pl (fun _ => 0) g (24 * k) 24))) → px_PW 2 pc_195 Q 90 [some (.ref 1000), some (.int (nI k)), some (.int bits), some (.int n), some (.int (nI j))] [] ([], px_MH Z (va_up F 13 (zz_pl (fun _ => 0) g (24 * k) j)))
  | m, j, hj, H => by
    refine px_PW.steps kt_195.2 3 rfl ?_
    refine px_PW.br (fun c0 => ?_) (fun c0 => ?_)
    · have c0 : 24 ≤ (nI j) := of_decide_eq_true c0
      have c0 : 24 ≤ j := (nI_leI (a := 24) (b := j) (by omega) (by omega)).mp c0
      obtain rfl : m = 0 := by omega
      obtain rfl : j = 24 := by omega
      exact H
    · have c0 : ¬ (24 ≤ (nI j)) := of_decide_eq_false c0
      have c0 : ¬ (24 ≤ j) := fun q => c0 ((nI_leI (a := 24) (b := j) (by omega) (by omega)).mpr q)
      obtain ⟨m2, rfl⟩ : ∃ m2, m = m2 + 1 := ⟨m - 1, by omega⟩
      refine px_PW.steps kt_195.2 8 rfl ?_
      refine ms_13 kt_195.2 rfl (n := 24 * k + j) (px_ixS rfl) (by omega) ?_
      refine px_PW.steps kt_195.2 2 rfl ?_
      have g2 := m_sheet_loop hk (Z := Z) (g := g) (F := F) (bits := bits) (n := n) (Q := Q) m2 (j + 1) (by omega) H
      have e2 : va_up F 13 (zz_pl (fun _ => 0) g (24 * k) (j + 1)) = (va_up (va_up F 13 (zz_pl (fun _ => 0) g (24 * k) j)) 13 (upd (zz_pl (fun _ => 0) g (24 * k) j) (24 * k + j) 0)) := by rw [px_up_up, ← zz_pl_s]
      rw [e2, nI_succ j] at g2
      exact g2
def s_msheet (Z : Nat → Int32) (F : Nat → Nat → Int32) (k : Nat) (bits : Int32) (n : Int32) : Int32 × (Nat → Int32) × (Nat → Nat → Int32) := (if bits = 0 then (if bits = 0 then (if bits = 0 then (if bits = 0 then (1, Z, (va_up (va_up (va_up F 11 (upd (F 11) k bits)) 12 (upd (F 12) k 0)) 13 (zz_pl (fun _ => 0) (F 13) (24 * k) 24))) else (1, Z, (va_up (va_up (va_up F 11 (upd (F 11) k bits)) 12 (upd (F 12) k n)) 13 (zz_pl (fun _ => 0) (F 13) (24 * k) 24)))) else (if n ≤ 24 then (if bits = 0 then (1, Z, (va_up (va_up (va_up F 11 (upd (F 11) k bits)) 12 (upd (F 12) k 0)) 13 (zz_pl (fun _ => 0) (F 13) (24 * k) 24))) else (1, Z, (va_up (va_up (va_up F 11 (upd (F 11) k bits)) 12 (upd (F 12) k n)) 13 (zz_pl (fun _ => 0) (F 13) (24 * k) 24)))) else ((-1000000000 - 1), Z, F))) else (if 0 ≤ n then (if bits = 0 then (if bits = 0 then (1, Z, (va_up (va_up (va_up F 11 (upd (F 11) k bits)) 12 (upd (F 12) k 0)) 13 (zz_pl (fun _ => 0) (F 13) (24 * k) 24))) else (1, Z, (va_up (va_up (va_up F 11 (upd (F 11) k bits)) 12 (upd (F 12) k n)) 13 (zz_pl (fun _ => 0) (F 13) (24 * k) 24)))) else (if n ≤ 24 then (if bits = 0 then (1, Z, (va_up (va_up (va_up F 11 (upd (F 11) k bits)) 12 (upd (F 12) k 0)) 13 (zz_pl (fun _ => 0) (F 13) (24 * k) 24))) else (1, Z, (va_up (va_up (va_up F 11 (upd (F 11) k bits)) 12 (upd (F 12) k n)) 13 (zz_pl (fun _ => 0) (F 13) (24 * k) 24)))) else ((-1000000000 - 1), Z, F))) else ((-1000000000 - 3), Z, F))) else (if bits = 8 then (if bits = 0 then (if bits = 0 then (if bits = 0 then (1, Z, (va_up (va_up (va_up F 11 (upd (F 11) k bits)) 12 (upd (F 12) k 0)) 13 (zz_pl (fun _ => 0) (F 13) (24 * k) 24))) else (1, Z, (va_up (va_up (va_up F 11 (upd (F 11) k bits)) 12 (upd (F 12) k n)) 13 (zz_pl (fun _ => 0) (F 13) (24 * k) 24)))) else (if n ≤ 24 then (if bits = 0 then (1, Z, (va_up (va_up (va_up F 11 (upd (F 11) k bits)) 12 (upd (F 12) k 0)) 13 (zz_pl (fun _ => 0) (F 13) (24 * k) 24))) else (1, Z, (va_up (va_up (va_up F 11 (upd (F 11) k bits)) 12 (upd (F 12) k n)) 13 (zz_pl (fun _ => 0) (F 13) (24 * k) 24)))) else ((-1000000000 - 1), Z, F))) else (if 0 ≤ n then (if bits = 0 then (if bits = 0 then (1, Z, (va_up (va_up (va_up F 11 (upd (F 11) k bits)) 12 (upd (F 12) k 0)) 13 (zz_pl (fun _ => 0) (F 13) (24 * k) 24))) else (1, Z, (va_up (va_up (va_up F 11 (upd (F 11) k bits)) 12 (upd (F 12) k n)) 13 (zz_pl (fun _ => 0) (F 13) (24 * k) 24)))) else (if n ≤ 24 then (if bits = 0 then (1, Z, (va_up (va_up (va_up F 11 (upd (F 11) k bits)) 12 (upd (F 12) k 0)) 13 (zz_pl (fun _ => 0) (F 13) (24 * k) 24))) else (1, Z, (va_up (va_up (va_up F 11 (upd (F 11) k bits)) 12 (upd (F 12) k n)) 13 (zz_pl (fun _ => 0) (F 13) (24 * k) 24)))) else ((-1000000000 - 1), Z, F))) else ((-1000000000 - 3), Z, F))) else (if bits = 16 then (if bits = 0 then (if bits = 0 then (if bits = 0 then (1, Z, (va_up (va_up (va_up F 11 (upd (F 11) k bits)) 12 (upd (F 12) k 0)) 13 (zz_pl (fun _ => 0) (F 13) (24 * k) 24))) else (1, Z, (va_up (va_up (va_up F 11 (upd (F 11) k bits)) 12 (upd (F 12) k n)) 13 (zz_pl (fun _ => 0) (F 13) (24 * k) 24)))) else (if n ≤ 24 then (if bits = 0 then (1, Z, (va_up (va_up (va_up F 11 (upd (F 11) k bits)) 12 (upd (F 12) k 0)) 13 (zz_pl (fun _ => 0) (F 13) (24 * k) 24))) else (1, Z, (va_up (va_up (va_up F 11 (upd (F 11) k bits)) 12 (upd (F 12) k n)) 13 (zz_pl (fun _ => 0) (F 13) (24 * k) 24)))) else ((-1000000000 - 1), Z, F))) else (if 0 ≤ n then (if bits = 0 then (if bits = 0 then (1, Z, (va_up (va_up (va_up F 11 (upd (F 11) k bits)) 12 (upd (F 12) k 0)) 13 (zz_pl (fun _ => 0) (F 13) (24 * k) 24))) else (1, Z, (va_up (va_up (va_up F 11 (upd (F 11) k bits)) 12 (upd (F 12) k n)) 13 (zz_pl (fun _ => 0) (F 13) (24 * k) 24)))) else (if n ≤ 24 then (if bits = 0 then (1, Z, (va_up (va_up (va_up F 11 (upd (F 11) k bits)) 12 (upd (F 12) k 0)) 13 (zz_pl (fun _ => 0) (F 13) (24 * k) 24))) else (1, Z, (va_up (va_up (va_up F 11 (upd (F 11) k bits)) 12 (upd (F 12) k n)) 13 (zz_pl (fun _ => 0) (F 13) (24 * k) 24)))) else ((-1000000000 - 1), Z, F))) else ((-1000000000 - 3), Z, F))) else (if bits = 32 then (if bits = 0 then (if bits = 0 then (if bits = 0 then (1, Z, (va_up (va_up (va_up F 11 (upd (F 11) k bits)) 12 (upd (F 12) k 0)) 13 (zz_pl (fun _ => 0) (F 13) (24 * k) 24))) else (1, Z, (va_up (va_up (va_up F 11 (upd (F 11) k bits)) 12 (upd (F 12) k n)) 13 (zz_pl (fun _ => 0) (F 13) (24 * k) 24)))) else (if n ≤ 24 then (if bits = 0 then (1, Z, (va_up (va_up (va_up F 11 (upd (F 11) k bits)) 12 (upd (F 12) k 0)) 13 (zz_pl (fun _ => 0) (F 13) (24 * k) 24))) else (1, Z, (va_up (va_up (va_up F 11 (upd (F 11) k bits)) 12 (upd (F 12) k n)) 13 (zz_pl (fun _ => 0) (F 13) (24 * k) 24)))) else ((-1000000000 - 1), Z, F))) else (if 0 ≤ n then (if bits = 0 then (if bits = 0 then (1, Z, (va_up (va_up (va_up F 11 (upd (F 11) k bits)) 12 (upd (F 12) k 0)) 13 (zz_pl (fun _ => 0) (F 13) (24 * k) 24))) else (1, Z, (va_up (va_up (va_up F 11 (upd (F 11) k bits)) 12 (upd (F 12) k n)) 13 (zz_pl (fun _ => 0) (F 13) (24 * k) 24)))) else (if n ≤ 24 then (if bits = 0 then (1, Z, (va_up (va_up (va_up F 11 (upd (F 11) k bits)) 12 (upd (F 12) k 0)) 13 (zz_pl (fun _ => 0) (F 13) (24 * k) 24))) else (1, Z, (va_up (va_up (va_up F 11 (upd (F 11) k bits)) 12 (upd (F 12) k n)) 13 (zz_pl (fun _ => 0) (F 13) (24 * k) 24)))) else ((-1000000000 - 1), Z, F))) else ((-1000000000 - 3), Z, F))) else ((-1000000000 - 1), Z, F)))))
theorem kc_msheet {Z : Nat → Int32} {F : Nat → Nat → Int32}  (k : Nat) (bits : Int32) (n : Int32) (hk : k < 4) : px_PM 3 195 [.ref 1000, .int (nI k), .int bits, .int n] ([], px_MH Z F) (fun r h' => r = some (.int (s_msheet Z F k bits n).1) ∧ ∃ Z' F', px_sm (s_msheet Z F k bits n).2.1 (s_msheet Z F k bits n).2.2 Z' F' ∧ h' = ([], px_MH Z' F')) := by
  refine px_PM.start (nL := 5) (code := pc_195) rfl rfl ?_
  refine px_PW.steps kt_195.2 1 rfl ?_
  refine px_PW.callS kt_195.2 rfl rfl rfl (mm_isSheet _ _) (by decide) (fun v h1 q => ?_)
  obtain ⟨rfl, rfl⟩ := q
  refine px_PW.steps kt_195.2 1 rfl ?_
  refine px_PW.br (fun c0 => ?_) (fun c0 => ?_)
  · have c0 : ¬ (0 ≤ (nI k) ∧ (nI k) ≤ 3) := px_b1z (of_decide_eq_true c0)
    exact absurd (px_sh_ok hk) c0
  · have c0 : 0 ≤ (nI k) ∧ (nI k) ≤ 3 := px_b1n (of_decide_eq_false c0)
    refine px_PW.steps kt_195.2 2 rfl ?_
    refine px_PW.br (fun c1 => ?_) (fun c1 => ?_)
    · have c1 : bits = 0 := of_decide_eq_true c1
      refine px_PW.steps kt_195.2 2 rfl ?_
      refine px_PW.br (fun c2 => ?_) (fun c2 => ?_)
      · have c2 : bits = 0 := of_decide_eq_true c2
        refine px_PW.steps kt_195.2 2 rfl ?_
        refine px_PW.br (fun c3 => ?_) (fun c3 => ?_)
        · have c3 : bits = 0 := of_decide_eq_true c3
          refine px_PW.steps kt_195.2 4 rfl ?_
          refine ms_11 kt_195.2 rfl (n := k) rfl hk ?_
          refine px_PW.steps kt_195.2 5 rfl ?_
          refine px_PW.br (fun c4 => ?_) (fun c4 => ?_)
          · have c4 : ¬ (bits = 0) := of_decide_eq_false (px_nt c4)
            refine px_PW.steps kt_195.2 1 rfl ?_
            refine ms_12 kt_195.2 rfl (n := k) rfl hk ?_
            refine px_PW.steps kt_195.2 2 rfl ?_
            refine px_PW.hp (h' := ([], px_MH Z (va_up (va_up (va_up F 11 (upd (F 11) k bits)) 12 (upd (F 12) k n)) 13 (zz_pl (fun _ => 0) (F 13) (24 * k) 0)))) (by rw [zz_pl_0]; exact congrArg (fun z => ([], px_MH Z z)) (px_up_id (va_up (va_up F 11 (upd (F 11) k bits)) 12 (upd (F 12) k n)) 13).symm) ?_
            refine m_sheet_loop hk 24 0 (by omega) ?_
            refine px_PW.steps kt_195.2 1 rfl ?_
            refine px_PW.ret kt_195.2 rfl rfl ?_
            have E : s_msheet Z F k bits n = (1, Z, (va_up (va_up (va_up F 11 (upd (F 11) k bits)) 12 (upd (F 12) k n)) 13 (zz_pl (fun _ => 0) (F 13) (24 * k) 24))) := (if_pos c1).trans ((if_pos c2).trans ((if_pos c3).trans (if_neg c4)))
            rw [E]
            exact ⟨rfl, _, _, px_sm.rf, rfl⟩
          · have c4 : bits = 0 := of_decide_eq_true (px_nf c4)
            refine px_PW.steps kt_195.2 2 rfl ?_
            refine ms_12 kt_195.2 rfl (n := k) rfl hk ?_
            refine px_PW.steps kt_195.2 2 rfl ?_
            refine px_PW.hp (h' := ([], px_MH Z (va_up (va_up (va_up F 11 (upd (F 11) k bits)) 12 (upd (F 12) k 0)) 13 (zz_pl (fun _ => 0) (F 13) (24 * k) 0)))) (by rw [zz_pl_0]; exact congrArg (fun z => ([], px_MH Z z)) (px_up_id (va_up (va_up F 11 (upd (F 11) k bits)) 12 (upd (F 12) k 0)) 13).symm) ?_
            refine m_sheet_loop hk 24 0 (by omega) ?_
            refine px_PW.steps kt_195.2 1 rfl ?_
            refine px_PW.ret kt_195.2 rfl rfl ?_
            have E : s_msheet Z F k bits n = (1, Z, (va_up (va_up (va_up F 11 (upd (F 11) k bits)) 12 (upd (F 12) k 0)) 13 (zz_pl (fun _ => 0) (F 13) (24 * k) 24))) := (if_pos c1).trans ((if_pos c2).trans ((if_pos c3).trans (if_pos c4)))
            rw [E]
            exact ⟨rfl, _, _, px_sm.rf, rfl⟩
        · have c3 : ¬ (bits = 0) := of_decide_eq_false c3
          refine px_PW.steps kt_195.2 3 rfl ?_
          refine px_PW.br (fun c5 => ?_) (fun c5 => ?_)
          · have c5 : n ≤ 24 := of_decide_eq_true c5
            refine px_PW.steps kt_195.2 4 rfl ?_
            refine ms_11 kt_195.2 rfl (n := k) rfl hk ?_
            refine px_PW.steps kt_195.2 5 rfl ?_
            refine px_PW.br (fun c6 => ?_) (fun c6 => ?_)
            · have c6 : ¬ (bits = 0) := of_decide_eq_false (px_nt c6)
              refine px_PW.steps kt_195.2 1 rfl ?_
              refine ms_12 kt_195.2 rfl (n := k) rfl hk ?_
              refine px_PW.steps kt_195.2 2 rfl ?_
              refine px_PW.hp (h' := ([], px_MH Z (va_up (va_up (va_up F 11 (upd (F 11) k bits)) 12 (upd (F 12) k n)) 13 (zz_pl (fun _ => 0) (F 13) (24 * k) 0)))) (by rw [zz_pl_0]; exact congrArg (fun z => ([], px_MH Z z)) (px_up_id (va_up (va_up F 11 (upd (F 11) k bits)) 12 (upd (F 12) k n)) 13).symm) ?_
              refine m_sheet_loop hk 24 0 (by omega) ?_
              refine px_PW.steps kt_195.2 1 rfl ?_
              refine px_PW.ret kt_195.2 rfl rfl ?_
              have E : s_msheet Z F k bits n = (1, Z, (va_up (va_up (va_up F 11 (upd (F 11) k bits)) 12 (upd (F 12) k n)) 13 (zz_pl (fun _ => 0) (F 13) (24 * k) 24))) := (if_pos c1).trans ((if_pos c2).trans ((if_neg c3).trans ((if_pos c5).trans (if_neg c6))))
              rw [E]
              exact ⟨rfl, _, _, px_sm.rf, rfl⟩
            · have c6 : bits = 0 := of_decide_eq_true (px_nf c6)
              refine px_PW.steps kt_195.2 2 rfl ?_
              refine ms_12 kt_195.2 rfl (n := k) rfl hk ?_
              refine px_PW.steps kt_195.2 2 rfl ?_
              refine px_PW.hp (h' := ([], px_MH Z (va_up (va_up (va_up F 11 (upd (F 11) k bits)) 12 (upd (F 12) k 0)) 13 (zz_pl (fun _ => 0) (F 13) (24 * k) 0)))) (by rw [zz_pl_0]; exact congrArg (fun z => ([], px_MH Z z)) (px_up_id (va_up (va_up F 11 (upd (F 11) k bits)) 12 (upd (F 12) k 0)) 13).symm) ?_
              refine m_sheet_loop hk 24 0 (by omega) ?_
              refine px_PW.steps kt_195.2 1 rfl ?_
              refine px_PW.ret kt_195.2 rfl rfl ?_
              have E : s_msheet Z F k bits n = (1, Z, (va_up (va_up (va_up F 11 (upd (F 11) k bits)) 12 (upd (F 12) k 0)) 13 (zz_pl (fun _ => 0) (F 13) (24 * k) 24))) := (if_pos c1).trans ((if_pos c2).trans ((if_neg c3).trans ((if_pos c5).trans (if_pos c6))))
              rw [E]
              exact ⟨rfl, _, _, px_sm.rf, rfl⟩
          · have c5 : ¬ (n ≤ 24) := of_decide_eq_false c5
            refine px_PW.steps kt_195.2 2 rfl ?_
            refine px_PW.callV kt_195.2 rfl rfl rfl rfl (mm_error 1 (by decide)) (by decide) (fun v h1 q => ?_)
            obtain ⟨rfl, rfl⟩ := q
            refine px_PW.ret kt_195.2 rfl rfl ?_
            have E : s_msheet Z F k bits n = ((-1000000000 - 1), Z, F) := (if_pos c1).trans ((if_pos c2).trans ((if_neg c3).trans (if_neg c5)))
            rw [E]
            exact ⟨rfl, _, _, px_sm.err, rfl⟩
      · have c2 : ¬ (bits = 0) := of_decide_eq_false c2
        refine px_PW.steps kt_195.2 2 rfl ?_
        refine px_PW.br (fun c7 => ?_) (fun c7 => ?_)
        · have c7 : 0 ≤ n := of_decide_eq_true c7
          refine px_PW.steps kt_195.2 2 rfl ?_
          refine px_PW.br (fun c8 => ?_) (fun c8 => ?_)
          · have c8 : bits = 0 := of_decide_eq_true c8
            refine px_PW.steps kt_195.2 4 rfl ?_
            refine ms_11 kt_195.2 rfl (n := k) rfl hk ?_
            refine px_PW.steps kt_195.2 5 rfl ?_
            refine px_PW.br (fun c9 => ?_) (fun c9 => ?_)
            · have c9 : ¬ (bits = 0) := of_decide_eq_false (px_nt c9)
              refine px_PW.steps kt_195.2 1 rfl ?_
              refine ms_12 kt_195.2 rfl (n := k) rfl hk ?_
              refine px_PW.steps kt_195.2 2 rfl ?_
              refine px_PW.hp (h' := ([], px_MH Z (va_up (va_up (va_up F 11 (upd (F 11) k bits)) 12 (upd (F 12) k n)) 13 (zz_pl (fun _ => 0) (F 13) (24 * k) 0)))) (by rw [zz_pl_0]; exact congrArg (fun z => ([], px_MH Z z)) (px_up_id (va_up (va_up F 11 (upd (F 11) k bits)) 12 (upd (F 12) k n)) 13).symm) ?_
              refine m_sheet_loop hk 24 0 (by omega) ?_
              refine px_PW.steps kt_195.2 1 rfl ?_
              refine px_PW.ret kt_195.2 rfl rfl ?_
              have E : s_msheet Z F k bits n = (1, Z, (va_up (va_up (va_up F 11 (upd (F 11) k bits)) 12 (upd (F 12) k n)) 13 (zz_pl (fun _ => 0) (F 13) (24 * k) 24))) := (if_pos c1).trans ((if_neg c2).trans ((if_pos c7).trans ((if_pos c8).trans (if_neg c9))))
              rw [E]
              exact ⟨rfl, _, _, px_sm.rf, rfl⟩
            · have c9 : bits = 0 := of_decide_eq_true (px_nf c9)
              refine px_PW.steps kt_195.2 2 rfl ?_
              refine ms_12 kt_195.2 rfl (n := k) rfl hk ?_
              refine px_PW.steps kt_195.2 2 rfl ?_
              refine px_PW.hp (h' := ([], px_MH Z (va_up (va_up (va_up F 11 (upd (F 11) k bits)) 12 (upd (F 12) k 0)) 13 (zz_pl (fun _ => 0) (F 13) (24 * k) 0)))) (by rw [zz_pl_0]; exact congrArg (fun z => ([], px_MH Z z)) (px_up_id (va_up (va_up F 11 (upd (F 11) k bits)) 12 (upd (F 12) k 0)) 13).symm) ?_
              refine m_sheet_loop hk 24 0 (by omega) ?_
              refine px_PW.steps kt_195.2 1 rfl ?_
              refine px_PW.ret kt_195.2 rfl rfl ?_
              have E : s_msheet Z F k bits n = (1, Z, (va_up (va_up (va_up F 11 (upd (F 11) k bits)) 12 (upd (F 12) k 0)) 13 (zz_pl (fun _ => 0) (F 13) (24 * k) 24))) := (if_pos c1).trans ((if_neg c2).trans ((if_pos c7).trans ((if_pos c8).trans (if_pos c9))))
              rw [E]
              exact ⟨rfl, _, _, px_sm.rf, rfl⟩
          · have c8 : ¬ (bits = 0) := of_decide_eq_false c8
            refine px_PW.steps kt_195.2 3 rfl ?_
            refine px_PW.br (fun c10 => ?_) (fun c10 => ?_)
            · have c10 : n ≤ 24 := of_decide_eq_true c10
              refine px_PW.steps kt_195.2 4 rfl ?_
              refine ms_11 kt_195.2 rfl (n := k) rfl hk ?_
              refine px_PW.steps kt_195.2 5 rfl ?_
              refine px_PW.br (fun c11 => ?_) (fun c11 => ?_)
              · have c11 : ¬ (bits = 0) := of_decide_eq_false (px_nt c11)
                refine px_PW.steps kt_195.2 1 rfl ?_
                refine ms_12 kt_195.2 rfl (n := k) rfl hk ?_
                refine px_PW.steps kt_195.2 2 rfl ?_
                refine px_PW.hp (h' := ([], px_MH Z (va_up (va_up (va_up F 11 (upd (F 11) k bits)) 12 (upd (F 12) k n)) 13 (zz_pl (fun _ => 0) (F 13) (24 * k) 0)))) (by rw [zz_pl_0]; exact congrArg (fun z => ([], px_MH Z z)) (px_up_id (va_up (va_up F 11 (upd (F 11) k bits)) 12 (upd (F 12) k n)) 13).symm) ?_
                refine m_sheet_loop hk 24 0 (by omega) ?_
                refine px_PW.steps kt_195.2 1 rfl ?_
                refine px_PW.ret kt_195.2 rfl rfl ?_
                have E : s_msheet Z F k bits n = (1, Z, (va_up (va_up (va_up F 11 (upd (F 11) k bits)) 12 (upd (F 12) k n)) 13 (zz_pl (fun _ => 0) (F 13) (24 * k) 24))) := (if_pos c1).trans ((if_neg c2).trans ((if_pos c7).trans ((if_neg c8).trans ((if_pos c10).trans (if_neg c11)))))
                rw [E]
                exact ⟨rfl, _, _, px_sm.rf, rfl⟩
              · have c11 : bits = 0 := of_decide_eq_true (px_nf c11)
                refine px_PW.steps kt_195.2 2 rfl ?_
                refine ms_12 kt_195.2 rfl (n := k) rfl hk ?_
                refine px_PW.steps kt_195.2 2 rfl ?_
                refine px_PW.hp (h' := ([], px_MH Z (va_up (va_up (va_up F 11 (upd (F 11) k bits)) 12 (upd (F 12) k 0)) 13 (zz_pl (fun _ => 0) (F 13) (24 * k) 0)))) (by rw [zz_pl_0]; exact congrArg (fun z => ([], px_MH Z z)) (px_up_id (va_up (va_up F 11 (upd (F 11) k bits)) 12 (upd (F 12) k 0)) 13).symm) ?_
                refine m_sheet_loop hk 24 0 (by omega) ?_
                refine px_PW.steps kt_195.2 1 rfl ?_
                refine px_PW.ret kt_195.2 rfl rfl ?_
                have E : s_msheet Z F k bits n = (1, Z, (va_up (va_up (va_up F 11 (upd (F 11) k bits)) 12 (upd (F 12) k 0)) 13 (zz_pl (fun _ => 0) (F 13) (24 * k) 24))) := (if_pos c1).trans ((if_neg c2).trans ((if_pos c7).trans ((if_neg c8).trans ((if_pos c10).trans (if_pos c11)))))
                rw [E]
                exact ⟨rfl, _, _, px_sm.rf, rfl⟩
            · have c10 : ¬ (n ≤ 24) := of_decide_eq_false c10
              refine px_PW.steps kt_195.2 2 rfl ?_
              refine px_PW.callV kt_195.2 rfl rfl rfl rfl (mm_error 1 (by decide)) (by decide) (fun v h1 q => ?_)
              obtain ⟨rfl, rfl⟩ := q
              refine px_PW.ret kt_195.2 rfl rfl ?_
              have E : s_msheet Z F k bits n = ((-1000000000 - 1), Z, F) := (if_pos c1).trans ((if_neg c2).trans ((if_pos c7).trans ((if_neg c8).trans (if_neg c10))))
              rw [E]
              exact ⟨rfl, _, _, px_sm.err, rfl⟩
        · have c7 : ¬ (0 ≤ n) := of_decide_eq_false c7
          refine px_PW.steps kt_195.2 2 rfl ?_
          refine px_PW.callV kt_195.2 rfl rfl rfl rfl (mm_error 3 (by decide)) (by decide) (fun v h1 q => ?_)
          obtain ⟨rfl, rfl⟩ := q
          refine px_PW.ret kt_195.2 rfl rfl ?_
          have E : s_msheet Z F k bits n = ((-1000000000 - 3), Z, F) := (if_pos c1).trans ((if_neg c2).trans (if_neg c7))
          rw [E]
          exact ⟨rfl, _, _, px_sm.err, rfl⟩
    · have c1 : ¬ (bits = 0) := of_decide_eq_false c1
      refine px_PW.steps kt_195.2 3 rfl ?_
      refine px_PW.br (fun c12 => ?_) (fun c12 => ?_)
      · have c12 : bits = 8 := of_decide_eq_true c12
        refine px_PW.steps kt_195.2 2 rfl ?_
        refine px_PW.br (fun c13 => ?_) (fun c13 => ?_)
        · have c13 : bits = 0 := of_decide_eq_true c13
          refine px_PW.steps kt_195.2 2 rfl ?_
          refine px_PW.br (fun c14 => ?_) (fun c14 => ?_)
          · have c14 : bits = 0 := of_decide_eq_true c14
            refine px_PW.steps kt_195.2 4 rfl ?_
            refine ms_11 kt_195.2 rfl (n := k) rfl hk ?_
            refine px_PW.steps kt_195.2 5 rfl ?_
            refine px_PW.br (fun c15 => ?_) (fun c15 => ?_)
            · have c15 : ¬ (bits = 0) := of_decide_eq_false (px_nt c15)
              refine px_PW.steps kt_195.2 1 rfl ?_
              refine ms_12 kt_195.2 rfl (n := k) rfl hk ?_
              refine px_PW.steps kt_195.2 2 rfl ?_
              refine px_PW.hp (h' := ([], px_MH Z (va_up (va_up (va_up F 11 (upd (F 11) k bits)) 12 (upd (F 12) k n)) 13 (zz_pl (fun _ => 0) (F 13) (24 * k) 0)))) (by rw [zz_pl_0]; exact congrArg (fun z => ([], px_MH Z z)) (px_up_id (va_up (va_up F 11 (upd (F 11) k bits)) 12 (upd (F 12) k n)) 13).symm) ?_
              refine m_sheet_loop hk 24 0 (by omega) ?_
              refine px_PW.steps kt_195.2 1 rfl ?_
              refine px_PW.ret kt_195.2 rfl rfl ?_
              have E : s_msheet Z F k bits n = (1, Z, (va_up (va_up (va_up F 11 (upd (F 11) k bits)) 12 (upd (F 12) k n)) 13 (zz_pl (fun _ => 0) (F 13) (24 * k) 24))) := (if_neg c1).trans ((if_pos c12).trans ((if_pos c13).trans ((if_pos c14).trans (if_neg c15))))
              rw [E]
              exact ⟨rfl, _, _, px_sm.rf, rfl⟩
            · have c15 : bits = 0 := of_decide_eq_true (px_nf c15)
              refine px_PW.steps kt_195.2 2 rfl ?_
              refine ms_12 kt_195.2 rfl (n := k) rfl hk ?_
              refine px_PW.steps kt_195.2 2 rfl ?_
              refine px_PW.hp (h' := ([], px_MH Z (va_up (va_up (va_up F 11 (upd (F 11) k bits)) 12 (upd (F 12) k 0)) 13 (zz_pl (fun _ => 0) (F 13) (24 * k) 0)))) (by rw [zz_pl_0]; exact congrArg (fun z => ([], px_MH Z z)) (px_up_id (va_up (va_up F 11 (upd (F 11) k bits)) 12 (upd (F 12) k 0)) 13).symm) ?_
              refine m_sheet_loop hk 24 0 (by omega) ?_
              refine px_PW.steps kt_195.2 1 rfl ?_
              refine px_PW.ret kt_195.2 rfl rfl ?_
              have E : s_msheet Z F k bits n = (1, Z, (va_up (va_up (va_up F 11 (upd (F 11) k bits)) 12 (upd (F 12) k 0)) 13 (zz_pl (fun _ => 0) (F 13) (24 * k) 24))) := (if_neg c1).trans ((if_pos c12).trans ((if_pos c13).trans ((if_pos c14).trans (if_pos c15))))
              rw [E]
              exact ⟨rfl, _, _, px_sm.rf, rfl⟩
          · have c14 : ¬ (bits = 0) := of_decide_eq_false c14
            refine px_PW.steps kt_195.2 3 rfl ?_
            refine px_PW.br (fun c16 => ?_) (fun c16 => ?_)
            · have c16 : n ≤ 24 := of_decide_eq_true c16
              refine px_PW.steps kt_195.2 4 rfl ?_
              refine ms_11 kt_195.2 rfl (n := k) rfl hk ?_
              refine px_PW.steps kt_195.2 5 rfl ?_
              refine px_PW.br (fun c17 => ?_) (fun c17 => ?_)
              · have c17 : ¬ (bits = 0) := of_decide_eq_false (px_nt c17)
                refine px_PW.steps kt_195.2 1 rfl ?_
                refine ms_12 kt_195.2 rfl (n := k) rfl hk ?_
                refine px_PW.steps kt_195.2 2 rfl ?_
                refine px_PW.hp (h' := ([], px_MH Z (va_up (va_up (va_up F 11 (upd (F 11) k bits)) 12 (upd (F 12) k n)) 13 (zz_pl (fun _ => 0) (F 13) (24 * k) 0)))) (by rw [zz_pl_0]; exact congrArg (fun z => ([], px_MH Z z)) (px_up_id (va_up (va_up F 11 (upd (F 11) k bits)) 12 (upd (F 12) k n)) 13).symm) ?_
                refine m_sheet_loop hk 24 0 (by omega) ?_
                refine px_PW.steps kt_195.2 1 rfl ?_
                refine px_PW.ret kt_195.2 rfl rfl ?_
                have E : s_msheet Z F k bits n = (1, Z, (va_up (va_up (va_up F 11 (upd (F 11) k bits)) 12 (upd (F 12) k n)) 13 (zz_pl (fun _ => 0) (F 13) (24 * k) 24))) := (if_neg c1).trans ((if_pos c12).trans ((if_pos c13).trans ((if_neg c14).trans ((if_pos c16).trans (if_neg c17)))))
                rw [E]
                exact ⟨rfl, _, _, px_sm.rf, rfl⟩
              · have c17 : bits = 0 := of_decide_eq_true (px_nf c17)
                refine px_PW.steps kt_195.2 2 rfl ?_
                refine ms_12 kt_195.2 rfl (n := k) rfl hk ?_
                refine px_PW.steps kt_195.2 2 rfl ?_
                refine px_PW.hp (h' := ([], px_MH Z (va_up (va_up (va_up F 11 (upd (F 11) k bits)) 12 (upd (F 12) k 0)) 13 (zz_pl (fun _ => 0) (F 13) (24 * k) 0)))) (by rw [zz_pl_0]; exact congrArg (fun z => ([], px_MH Z z)) (px_up_id (va_up (va_up F 11 (upd (F 11) k bits)) 12 (upd (F 12) k 0)) 13).symm) ?_
                refine m_sheet_loop hk 24 0 (by omega) ?_
                refine px_PW.steps kt_195.2 1 rfl ?_
                refine px_PW.ret kt_195.2 rfl rfl ?_
                have E : s_msheet Z F k bits n = (1, Z, (va_up (va_up (va_up F 11 (upd (F 11) k bits)) 12 (upd (F 12) k 0)) 13 (zz_pl (fun _ => 0) (F 13) (24 * k) 24))) := (if_neg c1).trans ((if_pos c12).trans ((if_pos c13).trans ((if_neg c14).trans ((if_pos c16).trans (if_pos c17)))))
                rw [E]
                exact ⟨rfl, _, _, px_sm.rf, rfl⟩
            · have c16 : ¬ (n ≤ 24) := of_decide_eq_false c16
              refine px_PW.steps kt_195.2 2 rfl ?_
              refine px_PW.callV kt_195.2 rfl rfl rfl rfl (mm_error 1 (by decide)) (by decide) (fun v h1 q => ?_)
              obtain ⟨rfl, rfl⟩ := q
              refine px_PW.ret kt_195.2 rfl rfl ?_
              have E : s_msheet Z F k bits n = ((-1000000000 - 1), Z, F) := (if_neg c1).trans ((if_pos c12).trans ((if_pos c13).trans ((if_neg c14).trans (if_neg c16))))
              rw [E]
              exact ⟨rfl, _, _, px_sm.err, rfl⟩
        · have c13 : ¬ (bits = 0) := of_decide_eq_false c13
          refine px_PW.steps kt_195.2 2 rfl ?_
          refine px_PW.br (fun c18 => ?_) (fun c18 => ?_)
          · have c18 : 0 ≤ n := of_decide_eq_true c18
            refine px_PW.steps kt_195.2 2 rfl ?_
            refine px_PW.br (fun c19 => ?_) (fun c19 => ?_)
            · have c19 : bits = 0 := of_decide_eq_true c19
              refine px_PW.steps kt_195.2 4 rfl ?_
              refine ms_11 kt_195.2 rfl (n := k) rfl hk ?_
              refine px_PW.steps kt_195.2 5 rfl ?_
              refine px_PW.br (fun c20 => ?_) (fun c20 => ?_)
              · have c20 : ¬ (bits = 0) := of_decide_eq_false (px_nt c20)
                refine px_PW.steps kt_195.2 1 rfl ?_
                refine ms_12 kt_195.2 rfl (n := k) rfl hk ?_
                refine px_PW.steps kt_195.2 2 rfl ?_
                refine px_PW.hp (h' := ([], px_MH Z (va_up (va_up (va_up F 11 (upd (F 11) k bits)) 12 (upd (F 12) k n)) 13 (zz_pl (fun _ => 0) (F 13) (24 * k) 0)))) (by rw [zz_pl_0]; exact congrArg (fun z => ([], px_MH Z z)) (px_up_id (va_up (va_up F 11 (upd (F 11) k bits)) 12 (upd (F 12) k n)) 13).symm) ?_
                refine m_sheet_loop hk 24 0 (by omega) ?_
                refine px_PW.steps kt_195.2 1 rfl ?_
                refine px_PW.ret kt_195.2 rfl rfl ?_
                have E : s_msheet Z F k bits n = (1, Z, (va_up (va_up (va_up F 11 (upd (F 11) k bits)) 12 (upd (F 12) k n)) 13 (zz_pl (fun _ => 0) (F 13) (24 * k) 24))) := (if_neg c1).trans ((if_pos c12).trans ((if_neg c13).trans ((if_pos c18).trans ((if_pos c19).trans (if_neg c20)))))
                rw [E]
                exact ⟨rfl, _, _, px_sm.rf, rfl⟩
              · have c20 : bits = 0 := of_decide_eq_true (px_nf c20)
                refine px_PW.steps kt_195.2 2 rfl ?_
                refine ms_12 kt_195.2 rfl (n := k) rfl hk ?_
                refine px_PW.steps kt_195.2 2 rfl ?_
                refine px_PW.hp (h' := ([], px_MH Z (va_up (va_up (va_up F 11 (upd (F 11) k bits)) 12 (upd (F 12) k 0)) 13 (zz_pl (fun _ => 0) (F 13) (24 * k) 0)))) (by rw [zz_pl_0]; exact congrArg (fun z => ([], px_MH Z z)) (px_up_id (va_up (va_up F 11 (upd (F 11) k bits)) 12 (upd (F 12) k 0)) 13).symm) ?_
                refine m_sheet_loop hk 24 0 (by omega) ?_
                refine px_PW.steps kt_195.2 1 rfl ?_
                refine px_PW.ret kt_195.2 rfl rfl ?_
                have E : s_msheet Z F k bits n = (1, Z, (va_up (va_up (va_up F 11 (upd (F 11) k bits)) 12 (upd (F 12) k 0)) 13 (zz_pl (fun _ => 0) (F 13) (24 * k) 24))) := (if_neg c1).trans ((if_pos c12).trans ((if_neg c13).trans ((if_pos c18).trans ((if_pos c19).trans (if_pos c20)))))
                rw [E]
                exact ⟨rfl, _, _, px_sm.rf, rfl⟩
            · have c19 : ¬ (bits = 0) := of_decide_eq_false c19
              refine px_PW.steps kt_195.2 3 rfl ?_
              refine px_PW.br (fun c21 => ?_) (fun c21 => ?_)
              · have c21 : n ≤ 24 := of_decide_eq_true c21
                refine px_PW.steps kt_195.2 4 rfl ?_
                refine ms_11 kt_195.2 rfl (n := k) rfl hk ?_
                refine px_PW.steps kt_195.2 5 rfl ?_
                refine px_PW.br (fun c22 => ?_) (fun c22 => ?_)
                · have c22 : ¬ (bits = 0) := of_decide_eq_false (px_nt c22)
                  refine px_PW.steps kt_195.2 1 rfl ?_
                  refine ms_12 kt_195.2 rfl (n := k) rfl hk ?_
                  refine px_PW.steps kt_195.2 2 rfl ?_
                  refine px_PW.hp (h' := ([], px_MH Z (va_up (va_up (va_up F 11 (upd (F 11) k bits)) 12 (upd (F 12) k n)) 13 (zz_pl (fun _ => 0) (F 13) (24 * k) 0)))) (by rw [zz_pl_0]; exact congrArg (fun z => ([], px_MH Z z)) (px_up_id (va_up (va_up F 11 (upd (F 11) k bits)) 12 (upd (F 12) k n)) 13).symm) ?_
                  refine m_sheet_loop hk 24 0 (by omega) ?_
                  refine px_PW.steps kt_195.2 1 rfl ?_
                  refine px_PW.ret kt_195.2 rfl rfl ?_
                  have E : s_msheet Z F k bits n = (1, Z, (va_up (va_up (va_up F 11 (upd (F 11) k bits)) 12 (upd (F 12) k n)) 13 (zz_pl (fun _ => 0) (F 13) (24 * k) 24))) := (if_neg c1).trans ((if_pos c12).trans ((if_neg c13).trans ((if_pos c18).trans ((if_neg c19).trans ((if_pos c21).trans (if_neg c22))))))
                  rw [E]
                  exact ⟨rfl, _, _, px_sm.rf, rfl⟩
                · have c22 : bits = 0 := of_decide_eq_true (px_nf c22)
                  refine px_PW.steps kt_195.2 2 rfl ?_
                  refine ms_12 kt_195.2 rfl (n := k) rfl hk ?_
                  refine px_PW.steps kt_195.2 2 rfl ?_
                  refine px_PW.hp (h' := ([], px_MH Z (va_up (va_up (va_up F 11 (upd (F 11) k bits)) 12 (upd (F 12) k 0)) 13 (zz_pl (fun _ => 0) (F 13) (24 * k) 0)))) (by rw [zz_pl_0]; exact congrArg (fun z => ([], px_MH Z z)) (px_up_id (va_up (va_up F 11 (upd (F 11) k bits)) 12 (upd (F 12) k 0)) 13).symm) ?_
                  refine m_sheet_loop hk 24 0 (by omega) ?_
                  refine px_PW.steps kt_195.2 1 rfl ?_
                  refine px_PW.ret kt_195.2 rfl rfl ?_
                  have E : s_msheet Z F k bits n = (1, Z, (va_up (va_up (va_up F 11 (upd (F 11) k bits)) 12 (upd (F 12) k 0)) 13 (zz_pl (fun _ => 0) (F 13) (24 * k) 24))) := (if_neg c1).trans ((if_pos c12).trans ((if_neg c13).trans ((if_pos c18).trans ((if_neg c19).trans ((if_pos c21).trans (if_pos c22))))))
                  rw [E]
                  exact ⟨rfl, _, _, px_sm.rf, rfl⟩
              · have c21 : ¬ (n ≤ 24) := of_decide_eq_false c21
                refine px_PW.steps kt_195.2 2 rfl ?_
                refine px_PW.callV kt_195.2 rfl rfl rfl rfl (mm_error 1 (by decide)) (by decide) (fun v h1 q => ?_)
                obtain ⟨rfl, rfl⟩ := q
                refine px_PW.ret kt_195.2 rfl rfl ?_
                have E : s_msheet Z F k bits n = ((-1000000000 - 1), Z, F) := (if_neg c1).trans ((if_pos c12).trans ((if_neg c13).trans ((if_pos c18).trans ((if_neg c19).trans (if_neg c21)))))
                rw [E]
                exact ⟨rfl, _, _, px_sm.err, rfl⟩
          · have c18 : ¬ (0 ≤ n) := of_decide_eq_false c18
            refine px_PW.steps kt_195.2 2 rfl ?_
            refine px_PW.callV kt_195.2 rfl rfl rfl rfl (mm_error 3 (by decide)) (by decide) (fun v h1 q => ?_)
            obtain ⟨rfl, rfl⟩ := q
            refine px_PW.ret kt_195.2 rfl rfl ?_
            have E : s_msheet Z F k bits n = ((-1000000000 - 3), Z, F) := (if_neg c1).trans ((if_pos c12).trans ((if_neg c13).trans (if_neg c18)))
            rw [E]
            exact ⟨rfl, _, _, px_sm.err, rfl⟩
      · have c12 : ¬ (bits = 8) := of_decide_eq_false c12
        refine px_PW.steps kt_195.2 3 rfl ?_
        refine px_PW.br (fun c23 => ?_) (fun c23 => ?_)
        · have c23 : bits = 16 := of_decide_eq_true c23
          refine px_PW.steps kt_195.2 2 rfl ?_
          refine px_PW.br (fun c24 => ?_) (fun c24 => ?_)
          · have c24 : bits = 0 := of_decide_eq_true c24
            refine px_PW.steps kt_195.2 2 rfl ?_
            refine px_PW.br (fun c25 => ?_) (fun c25 => ?_)
            · have c25 : bits = 0 := of_decide_eq_true c25
              refine px_PW.steps kt_195.2 4 rfl ?_
              refine ms_11 kt_195.2 rfl (n := k) rfl hk ?_
              refine px_PW.steps kt_195.2 5 rfl ?_
              refine px_PW.br (fun c26 => ?_) (fun c26 => ?_)
              · have c26 : ¬ (bits = 0) := of_decide_eq_false (px_nt c26)
                refine px_PW.steps kt_195.2 1 rfl ?_
                refine ms_12 kt_195.2 rfl (n := k) rfl hk ?_
                refine px_PW.steps kt_195.2 2 rfl ?_
                refine px_PW.hp (h' := ([], px_MH Z (va_up (va_up (va_up F 11 (upd (F 11) k bits)) 12 (upd (F 12) k n)) 13 (zz_pl (fun _ => 0) (F 13) (24 * k) 0)))) (by rw [zz_pl_0]; exact congrArg (fun z => ([], px_MH Z z)) (px_up_id (va_up (va_up F 11 (upd (F 11) k bits)) 12 (upd (F 12) k n)) 13).symm) ?_
                refine m_sheet_loop hk 24 0 (by omega) ?_
                refine px_PW.steps kt_195.2 1 rfl ?_
                refine px_PW.ret kt_195.2 rfl rfl ?_
                have E : s_msheet Z F k bits n = (1, Z, (va_up (va_up (va_up F 11 (upd (F 11) k bits)) 12 (upd (F 12) k n)) 13 (zz_pl (fun _ => 0) (F 13) (24 * k) 24))) := (if_neg c1).trans ((if_neg c12).trans ((if_pos c23).trans ((if_pos c24).trans ((if_pos c25).trans (if_neg c26)))))
                rw [E]
                exact ⟨rfl, _, _, px_sm.rf, rfl⟩
              · have c26 : bits = 0 := of_decide_eq_true (px_nf c26)
                refine px_PW.steps kt_195.2 2 rfl ?_
                refine ms_12 kt_195.2 rfl (n := k) rfl hk ?_
                refine px_PW.steps kt_195.2 2 rfl ?_
                refine px_PW.hp (h' := ([], px_MH Z (va_up (va_up (va_up F 11 (upd (F 11) k bits)) 12 (upd (F 12) k 0)) 13 (zz_pl (fun _ => 0) (F 13) (24 * k) 0)))) (by rw [zz_pl_0]; exact congrArg (fun z => ([], px_MH Z z)) (px_up_id (va_up (va_up F 11 (upd (F 11) k bits)) 12 (upd (F 12) k 0)) 13).symm) ?_
                refine m_sheet_loop hk 24 0 (by omega) ?_
                refine px_PW.steps kt_195.2 1 rfl ?_
                refine px_PW.ret kt_195.2 rfl rfl ?_
                have E : s_msheet Z F k bits n = (1, Z, (va_up (va_up (va_up F 11 (upd (F 11) k bits)) 12 (upd (F 12) k 0)) 13 (zz_pl (fun _ => 0) (F 13) (24 * k) 24))) := (if_neg c1).trans ((if_neg c12).trans ((if_pos c23).trans ((if_pos c24).trans ((if_pos c25).trans (if_pos c26)))))
                rw [E]
                exact ⟨rfl, _, _, px_sm.rf, rfl⟩
            · have c25 : ¬ (bits = 0) := of_decide_eq_false c25
              refine px_PW.steps kt_195.2 3 rfl ?_
              refine px_PW.br (fun c27 => ?_) (fun c27 => ?_)
              · have c27 : n ≤ 24 := of_decide_eq_true c27
                refine px_PW.steps kt_195.2 4 rfl ?_
                refine ms_11 kt_195.2 rfl (n := k) rfl hk ?_
                refine px_PW.steps kt_195.2 5 rfl ?_
                refine px_PW.br (fun c28 => ?_) (fun c28 => ?_)
                · have c28 : ¬ (bits = 0) := of_decide_eq_false (px_nt c28)
                  refine px_PW.steps kt_195.2 1 rfl ?_
                  refine ms_12 kt_195.2 rfl (n := k) rfl hk ?_
                  refine px_PW.steps kt_195.2 2 rfl ?_
                  refine px_PW.hp (h' := ([], px_MH Z (va_up (va_up (va_up F 11 (upd (F 11) k bits)) 12 (upd (F 12) k n)) 13 (zz_pl (fun _ => 0) (F 13) (24 * k) 0)))) (by rw [zz_pl_0]; exact congrArg (fun z => ([], px_MH Z z)) (px_up_id (va_up (va_up F 11 (upd (F 11) k bits)) 12 (upd (F 12) k n)) 13).symm) ?_
                  refine m_sheet_loop hk 24 0 (by omega) ?_
                  refine px_PW.steps kt_195.2 1 rfl ?_
                  refine px_PW.ret kt_195.2 rfl rfl ?_
                  have E : s_msheet Z F k bits n = (1, Z, (va_up (va_up (va_up F 11 (upd (F 11) k bits)) 12 (upd (F 12) k n)) 13 (zz_pl (fun _ => 0) (F 13) (24 * k) 24))) := (if_neg c1).trans ((if_neg c12).trans ((if_pos c23).trans ((if_pos c24).trans ((if_neg c25).trans ((if_pos c27).trans (if_neg c28))))))
                  rw [E]
                  exact ⟨rfl, _, _, px_sm.rf, rfl⟩
                · have c28 : bits = 0 := of_decide_eq_true (px_nf c28)
                  refine px_PW.steps kt_195.2 2 rfl ?_
                  refine ms_12 kt_195.2 rfl (n := k) rfl hk ?_
                  refine px_PW.steps kt_195.2 2 rfl ?_
                  refine px_PW.hp (h' := ([], px_MH Z (va_up (va_up (va_up F 11 (upd (F 11) k bits)) 12 (upd (F 12) k 0)) 13 (zz_pl (fun _ => 0) (F 13) (24 * k) 0)))) (by rw [zz_pl_0]; exact congrArg (fun z => ([], px_MH Z z)) (px_up_id (va_up (va_up F 11 (upd (F 11) k bits)) 12 (upd (F 12) k 0)) 13).symm) ?_
                  refine m_sheet_loop hk 24 0 (by omega) ?_
                  refine px_PW.steps kt_195.2 1 rfl ?_
                  refine px_PW.ret kt_195.2 rfl rfl ?_
                  have E : s_msheet Z F k bits n = (1, Z, (va_up (va_up (va_up F 11 (upd (F 11) k bits)) 12 (upd (F 12) k 0)) 13 (zz_pl (fun _ => 0) (F 13) (24 * k) 24))) := (if_neg c1).trans ((if_neg c12).trans ((if_pos c23).trans ((if_pos c24).trans ((if_neg c25).trans ((if_pos c27).trans (if_pos c28))))))
                  rw [E]
                  exact ⟨rfl, _, _, px_sm.rf, rfl⟩
              · have c27 : ¬ (n ≤ 24) := of_decide_eq_false c27
                refine px_PW.steps kt_195.2 2 rfl ?_
                refine px_PW.callV kt_195.2 rfl rfl rfl rfl (mm_error 1 (by decide)) (by decide) (fun v h1 q => ?_)
                obtain ⟨rfl, rfl⟩ := q
                refine px_PW.ret kt_195.2 rfl rfl ?_
                have E : s_msheet Z F k bits n = ((-1000000000 - 1), Z, F) := (if_neg c1).trans ((if_neg c12).trans ((if_pos c23).trans ((if_pos c24).trans ((if_neg c25).trans (if_neg c27)))))
                rw [E]
                exact ⟨rfl, _, _, px_sm.err, rfl⟩
          · have c24 : ¬ (bits = 0) := of_decide_eq_false c24
            refine px_PW.steps kt_195.2 2 rfl ?_
            refine px_PW.br (fun c29 => ?_) (fun c29 => ?_)
            · have c29 : 0 ≤ n := of_decide_eq_true c29
              refine px_PW.steps kt_195.2 2 rfl ?_
              refine px_PW.br (fun c30 => ?_) (fun c30 => ?_)
              · have c30 : bits = 0 := of_decide_eq_true c30
                refine px_PW.steps kt_195.2 4 rfl ?_
                refine ms_11 kt_195.2 rfl (n := k) rfl hk ?_
                refine px_PW.steps kt_195.2 5 rfl ?_
                refine px_PW.br (fun c31 => ?_) (fun c31 => ?_)
                · have c31 : ¬ (bits = 0) := of_decide_eq_false (px_nt c31)
                  refine px_PW.steps kt_195.2 1 rfl ?_
                  refine ms_12 kt_195.2 rfl (n := k) rfl hk ?_
                  refine px_PW.steps kt_195.2 2 rfl ?_
                  refine px_PW.hp (h' := ([], px_MH Z (va_up (va_up (va_up F 11 (upd (F 11) k bits)) 12 (upd (F 12) k n)) 13 (zz_pl (fun _ => 0) (F 13) (24 * k) 0)))) (by rw [zz_pl_0]; exact congrArg (fun z => ([], px_MH Z z)) (px_up_id (va_up (va_up F 11 (upd (F 11) k bits)) 12 (upd (F 12) k n)) 13).symm) ?_
                  refine m_sheet_loop hk 24 0 (by omega) ?_
                  refine px_PW.steps kt_195.2 1 rfl ?_
                  refine px_PW.ret kt_195.2 rfl rfl ?_
                  have E : s_msheet Z F k bits n = (1, Z, (va_up (va_up (va_up F 11 (upd (F 11) k bits)) 12 (upd (F 12) k n)) 13 (zz_pl (fun _ => 0) (F 13) (24 * k) 24))) := (if_neg c1).trans ((if_neg c12).trans ((if_pos c23).trans ((if_neg c24).trans ((if_pos c29).trans ((if_pos c30).trans (if_neg c31))))))
                  rw [E]
                  exact ⟨rfl, _, _, px_sm.rf, rfl⟩
                · have c31 : bits = 0 := of_decide_eq_true (px_nf c31)
                  refine px_PW.steps kt_195.2 2 rfl ?_
                  refine ms_12 kt_195.2 rfl (n := k) rfl hk ?_
                  refine px_PW.steps kt_195.2 2 rfl ?_
                  refine px_PW.hp (h' := ([], px_MH Z (va_up (va_up (va_up F 11 (upd (F 11) k bits)) 12 (upd (F 12) k 0)) 13 (zz_pl (fun _ => 0) (F 13) (24 * k) 0)))) (by rw [zz_pl_0]; exact congrArg (fun z => ([], px_MH Z z)) (px_up_id (va_up (va_up F 11 (upd (F 11) k bits)) 12 (upd (F 12) k 0)) 13).symm) ?_
                  refine m_sheet_loop hk 24 0 (by omega) ?_
                  refine px_PW.steps kt_195.2 1 rfl ?_
                  refine px_PW.ret kt_195.2 rfl rfl ?_
                  have E : s_msheet Z F k bits n = (1, Z, (va_up (va_up (va_up F 11 (upd (F 11) k bits)) 12 (upd (F 12) k 0)) 13 (zz_pl (fun _ => 0) (F 13) (24 * k) 24))) := (if_neg c1).trans ((if_neg c12).trans ((if_pos c23).trans ((if_neg c24).trans ((if_pos c29).trans ((if_pos c30).trans (if_pos c31))))))
                  rw [E]
                  exact ⟨rfl, _, _, px_sm.rf, rfl⟩
              · have c30 : ¬ (bits = 0) := of_decide_eq_false c30
                refine px_PW.steps kt_195.2 3 rfl ?_
                refine px_PW.br (fun c32 => ?_) (fun c32 => ?_)
                · have c32 : n ≤ 24 := of_decide_eq_true c32
                  refine px_PW.steps kt_195.2 4 rfl ?_
                  refine ms_11 kt_195.2 rfl (n := k) rfl hk ?_
                  refine px_PW.steps kt_195.2 5 rfl ?_
                  refine px_PW.br (fun c33 => ?_) (fun c33 => ?_)
                  · have c33 : ¬ (bits = 0) := of_decide_eq_false (px_nt c33)
                    refine px_PW.steps kt_195.2 1 rfl ?_
                    refine ms_12 kt_195.2 rfl (n := k) rfl hk ?_
                    refine px_PW.steps kt_195.2 2 rfl ?_
                    refine px_PW.hp (h' := ([], px_MH Z (va_up (va_up (va_up F 11 (upd (F 11) k bits)) 12 (upd (F 12) k n)) 13 (zz_pl (fun _ => 0) (F 13) (24 * k) 0)))) (by rw [zz_pl_0]; exact congrArg (fun z => ([], px_MH Z z)) (px_up_id (va_up (va_up F 11 (upd (F 11) k bits)) 12 (upd (F 12) k n)) 13).symm) ?_
                    refine m_sheet_loop hk 24 0 (by omega) ?_
                    refine px_PW.steps kt_195.2 1 rfl ?_
                    refine px_PW.ret kt_195.2 rfl rfl ?_
                    have E : s_msheet Z F k bits n = (1, Z, (va_up (va_up (va_up F 11 (upd (F 11) k bits)) 12 (upd (F 12) k n)) 13 (zz_pl (fun _ => 0) (F 13) (24 * k) 24))) := (if_neg c1).trans ((if_neg c12).trans ((if_pos c23).trans ((if_neg c24).trans ((if_pos c29).trans ((if_neg c30).trans ((if_pos c32).trans (if_neg c33)))))))
                    rw [E]
                    exact ⟨rfl, _, _, px_sm.rf, rfl⟩
                  · have c33 : bits = 0 := of_decide_eq_true (px_nf c33)
                    refine px_PW.steps kt_195.2 2 rfl ?_
                    refine ms_12 kt_195.2 rfl (n := k) rfl hk ?_
                    refine px_PW.steps kt_195.2 2 rfl ?_
                    refine px_PW.hp (h' := ([], px_MH Z (va_up (va_up (va_up F 11 (upd (F 11) k bits)) 12 (upd (F 12) k 0)) 13 (zz_pl (fun _ => 0) (F 13) (24 * k) 0)))) (by rw [zz_pl_0]; exact congrArg (fun z => ([], px_MH Z z)) (px_up_id (va_up (va_up F 11 (upd (F 11) k bits)) 12 (upd (F 12) k 0)) 13).symm) ?_
                    refine m_sheet_loop hk 24 0 (by omega) ?_
                    refine px_PW.steps kt_195.2 1 rfl ?_
                    refine px_PW.ret kt_195.2 rfl rfl ?_
                    have E : s_msheet Z F k bits n = (1, Z, (va_up (va_up (va_up F 11 (upd (F 11) k bits)) 12 (upd (F 12) k 0)) 13 (zz_pl (fun _ => 0) (F 13) (24 * k) 24))) := (if_neg c1).trans ((if_neg c12).trans ((if_pos c23).trans ((if_neg c24).trans ((if_pos c29).trans ((if_neg c30).trans ((if_pos c32).trans (if_pos c33)))))))
                    rw [E]
                    exact ⟨rfl, _, _, px_sm.rf, rfl⟩
                · have c32 : ¬ (n ≤ 24) := of_decide_eq_false c32
                  refine px_PW.steps kt_195.2 2 rfl ?_
                  refine px_PW.callV kt_195.2 rfl rfl rfl rfl (mm_error 1 (by decide)) (by decide) (fun v h1 q => ?_)
                  obtain ⟨rfl, rfl⟩ := q
                  refine px_PW.ret kt_195.2 rfl rfl ?_
                  have E : s_msheet Z F k bits n = ((-1000000000 - 1), Z, F) := (if_neg c1).trans ((if_neg c12).trans ((if_pos c23).trans ((if_neg c24).trans ((if_pos c29).trans ((if_neg c30).trans (if_neg c32))))))
                  rw [E]
                  exact ⟨rfl, _, _, px_sm.err, rfl⟩
            · have c29 : ¬ (0 ≤ n) := of_decide_eq_false c29
              refine px_PW.steps kt_195.2 2 rfl ?_
              refine px_PW.callV kt_195.2 rfl rfl rfl rfl (mm_error 3 (by decide)) (by decide) (fun v h1 q => ?_)
              obtain ⟨rfl, rfl⟩ := q
              refine px_PW.ret kt_195.2 rfl rfl ?_
              have E : s_msheet Z F k bits n = ((-1000000000 - 3), Z, F) := (if_neg c1).trans ((if_neg c12).trans ((if_pos c23).trans ((if_neg c24).trans (if_neg c29))))
              rw [E]
              exact ⟨rfl, _, _, px_sm.err, rfl⟩
        · have c23 : ¬ (bits = 16) := of_decide_eq_false c23
          refine px_PW.steps kt_195.2 3 rfl ?_
          refine px_PW.br (fun c34 => ?_) (fun c34 => ?_)
          · have c34 : bits = 32 := of_decide_eq_true c34
            refine px_PW.steps kt_195.2 2 rfl ?_
            refine px_PW.br (fun c35 => ?_) (fun c35 => ?_)
            · have c35 : bits = 0 := of_decide_eq_true c35
              refine px_PW.steps kt_195.2 2 rfl ?_
              refine px_PW.br (fun c36 => ?_) (fun c36 => ?_)
              · have c36 : bits = 0 := of_decide_eq_true c36
                refine px_PW.steps kt_195.2 4 rfl ?_
                refine ms_11 kt_195.2 rfl (n := k) rfl hk ?_
                refine px_PW.steps kt_195.2 5 rfl ?_
                refine px_PW.br (fun c37 => ?_) (fun c37 => ?_)
                · have c37 : ¬ (bits = 0) := of_decide_eq_false (px_nt c37)
                  refine px_PW.steps kt_195.2 1 rfl ?_
                  refine ms_12 kt_195.2 rfl (n := k) rfl hk ?_
                  refine px_PW.steps kt_195.2 2 rfl ?_
                  refine px_PW.hp (h' := ([], px_MH Z (va_up (va_up (va_up F 11 (upd (F 11) k bits)) 12 (upd (F 12) k n)) 13 (zz_pl (fun _ => 0) (F 13) (24 * k) 0)))) (by rw [zz_pl_0]; exact congrArg (fun z => ([], px_MH Z z)) (px_up_id (va_up (va_up F 11 (upd (F 11) k bits)) 12 (upd (F 12) k n)) 13).symm) ?_
                  refine m_sheet_loop hk 24 0 (by omega) ?_
                  refine px_PW.steps kt_195.2 1 rfl ?_
                  refine px_PW.ret kt_195.2 rfl rfl ?_
                  have E : s_msheet Z F k bits n = (1, Z, (va_up (va_up (va_up F 11 (upd (F 11) k bits)) 12 (upd (F 12) k n)) 13 (zz_pl (fun _ => 0) (F 13) (24 * k) 24))) := (if_neg c1).trans ((if_neg c12).trans ((if_neg c23).trans ((if_pos c34).trans ((if_pos c35).trans ((if_pos c36).trans (if_neg c37))))))
                  rw [E]
                  exact ⟨rfl, _, _, px_sm.rf, rfl⟩
                · have c37 : bits = 0 := of_decide_eq_true (px_nf c37)
                  refine px_PW.steps kt_195.2 2 rfl ?_
                  refine ms_12 kt_195.2 rfl (n := k) rfl hk ?_
                  refine px_PW.steps kt_195.2 2 rfl ?_
                  refine px_PW.hp (h' := ([], px_MH Z (va_up (va_up (va_up F 11 (upd (F 11) k bits)) 12 (upd (F 12) k 0)) 13 (zz_pl (fun _ => 0) (F 13) (24 * k) 0)))) (by rw [zz_pl_0]; exact congrArg (fun z => ([], px_MH Z z)) (px_up_id (va_up (va_up F 11 (upd (F 11) k bits)) 12 (upd (F 12) k 0)) 13).symm) ?_
                  refine m_sheet_loop hk 24 0 (by omega) ?_
                  refine px_PW.steps kt_195.2 1 rfl ?_
                  refine px_PW.ret kt_195.2 rfl rfl ?_
                  have E : s_msheet Z F k bits n = (1, Z, (va_up (va_up (va_up F 11 (upd (F 11) k bits)) 12 (upd (F 12) k 0)) 13 (zz_pl (fun _ => 0) (F 13) (24 * k) 24))) := (if_neg c1).trans ((if_neg c12).trans ((if_neg c23).trans ((if_pos c34).trans ((if_pos c35).trans ((if_pos c36).trans (if_pos c37))))))
                  rw [E]
                  exact ⟨rfl, _, _, px_sm.rf, rfl⟩
              · have c36 : ¬ (bits = 0) := of_decide_eq_false c36
                refine px_PW.steps kt_195.2 3 rfl ?_
                refine px_PW.br (fun c38 => ?_) (fun c38 => ?_)
                · have c38 : n ≤ 24 := of_decide_eq_true c38
                  refine px_PW.steps kt_195.2 4 rfl ?_
                  refine ms_11 kt_195.2 rfl (n := k) rfl hk ?_
                  refine px_PW.steps kt_195.2 5 rfl ?_
                  refine px_PW.br (fun c39 => ?_) (fun c39 => ?_)
                  · have c39 : ¬ (bits = 0) := of_decide_eq_false (px_nt c39)
                    refine px_PW.steps kt_195.2 1 rfl ?_
                    refine ms_12 kt_195.2 rfl (n := k) rfl hk ?_
                    refine px_PW.steps kt_195.2 2 rfl ?_
                    refine px_PW.hp (h' := ([], px_MH Z (va_up (va_up (va_up F 11 (upd (F 11) k bits)) 12 (upd (F 12) k n)) 13 (zz_pl (fun _ => 0) (F 13) (24 * k) 0)))) (by rw [zz_pl_0]; exact congrArg (fun z => ([], px_MH Z z)) (px_up_id (va_up (va_up F 11 (upd (F 11) k bits)) 12 (upd (F 12) k n)) 13).symm) ?_
                    refine m_sheet_loop hk 24 0 (by omega) ?_
                    refine px_PW.steps kt_195.2 1 rfl ?_
                    refine px_PW.ret kt_195.2 rfl rfl ?_
                    have E : s_msheet Z F k bits n = (1, Z, (va_up (va_up (va_up F 11 (upd (F 11) k bits)) 12 (upd (F 12) k n)) 13 (zz_pl (fun _ => 0) (F 13) (24 * k) 24))) := (if_neg c1).trans ((if_neg c12).trans ((if_neg c23).trans ((if_pos c34).trans ((if_pos c35).trans ((if_neg c36).trans ((if_pos c38).trans (if_neg c39)))))))
                    rw [E]
                    exact ⟨rfl, _, _, px_sm.rf, rfl⟩
                  · have c39 : bits = 0 := of_decide_eq_true (px_nf c39)
                    refine px_PW.steps kt_195.2 2 rfl ?_
                    refine ms_12 kt_195.2 rfl (n := k) rfl hk ?_
                    refine px_PW.steps kt_195.2 2 rfl ?_
                    refine px_PW.hp (h' := ([], px_MH Z (va_up (va_up (va_up F 11 (upd (F 11) k bits)) 12 (upd (F 12) k 0)) 13 (zz_pl (fun _ => 0) (F 13) (24 * k) 0)))) (by rw [zz_pl_0]; exact congrArg (fun z => ([], px_MH Z z)) (px_up_id (va_up (va_up F 11 (upd (F 11) k bits)) 12 (upd (F 12) k 0)) 13).symm) ?_
                    refine m_sheet_loop hk 24 0 (by omega) ?_
                    refine px_PW.steps kt_195.2 1 rfl ?_
                    refine px_PW.ret kt_195.2 rfl rfl ?_
                    have E : s_msheet Z F k bits n = (1, Z, (va_up (va_up (va_up F 11 (upd (F 11) k bits)) 12 (upd (F 12) k 0)) 13 (zz_pl (fun _ => 0) (F 13) (24 * k) 24))) := (if_neg c1).trans ((if_neg c12).trans ((if_neg c23).trans ((if_pos c34).trans ((if_pos c35).trans ((if_neg c36).trans ((if_pos c38).trans (if_pos c39)))))))
                    rw [E]
                    exact ⟨rfl, _, _, px_sm.rf, rfl⟩
                · have c38 : ¬ (n ≤ 24) := of_decide_eq_false c38
                  refine px_PW.steps kt_195.2 2 rfl ?_
                  refine px_PW.callV kt_195.2 rfl rfl rfl rfl (mm_error 1 (by decide)) (by decide) (fun v h1 q => ?_)
                  obtain ⟨rfl, rfl⟩ := q
                  refine px_PW.ret kt_195.2 rfl rfl ?_
                  have E : s_msheet Z F k bits n = ((-1000000000 - 1), Z, F) := (if_neg c1).trans ((if_neg c12).trans ((if_neg c23).trans ((if_pos c34).trans ((if_pos c35).trans ((if_neg c36).trans (if_neg c38))))))
                  rw [E]
                  exact ⟨rfl, _, _, px_sm.err, rfl⟩
            · have c35 : ¬ (bits = 0) := of_decide_eq_false c35
              refine px_PW.steps kt_195.2 2 rfl ?_
              refine px_PW.br (fun c40 => ?_) (fun c40 => ?_)
              · have c40 : 0 ≤ n := of_decide_eq_true c40
                refine px_PW.steps kt_195.2 2 rfl ?_
                refine px_PW.br (fun c41 => ?_) (fun c41 => ?_)
                · have c41 : bits = 0 := of_decide_eq_true c41
                  refine px_PW.steps kt_195.2 4 rfl ?_
                  refine ms_11 kt_195.2 rfl (n := k) rfl hk ?_
                  refine px_PW.steps kt_195.2 5 rfl ?_
                  refine px_PW.br (fun c42 => ?_) (fun c42 => ?_)
                  · have c42 : ¬ (bits = 0) := of_decide_eq_false (px_nt c42)
                    refine px_PW.steps kt_195.2 1 rfl ?_
                    refine ms_12 kt_195.2 rfl (n := k) rfl hk ?_
                    refine px_PW.steps kt_195.2 2 rfl ?_
                    refine px_PW.hp (h' := ([], px_MH Z (va_up (va_up (va_up F 11 (upd (F 11) k bits)) 12 (upd (F 12) k n)) 13 (zz_pl (fun _ => 0) (F 13) (24 * k) 0)))) (by rw [zz_pl_0]; exact congrArg (fun z => ([], px_MH Z z)) (px_up_id (va_up (va_up F 11 (upd (F 11) k bits)) 12 (upd (F 12) k n)) 13).symm) ?_
                    refine m_sheet_loop hk 24 0 (by omega) ?_
                    refine px_PW.steps kt_195.2 1 rfl ?_
                    refine px_PW.ret kt_195.2 rfl rfl ?_
                    have E : s_msheet Z F k bits n = (1, Z, (va_up (va_up (va_up F 11 (upd (F 11) k bits)) 12 (upd (F 12) k n)) 13 (zz_pl (fun _ => 0) (F 13) (24 * k) 24))) := (if_neg c1).trans ((if_neg c12).trans ((if_neg c23).trans ((if_pos c34).trans ((if_neg c35).trans ((if_pos c40).trans ((if_pos c41).trans (if_neg c42)))))))
                    rw [E]
                    exact ⟨rfl, _, _, px_sm.rf, rfl⟩
                  · have c42 : bits = 0 := of_decide_eq_true (px_nf c42)
                    refine px_PW.steps kt_195.2 2 rfl ?_
                    refine ms_12 kt_195.2 rfl (n := k) rfl hk ?_
                    refine px_PW.steps kt_195.2 2 rfl ?_
                    refine px_PW.hp (h' := ([], px_MH Z (va_up (va_up (va_up F 11 (upd (F 11) k bits)) 12 (upd (F 12) k 0)) 13 (zz_pl (fun _ => 0) (F 13) (24 * k) 0)))) (by rw [zz_pl_0]; exact congrArg (fun z => ([], px_MH Z z)) (px_up_id (va_up (va_up F 11 (upd (F 11) k bits)) 12 (upd (F 12) k 0)) 13).symm) ?_
                    refine m_sheet_loop hk 24 0 (by omega) ?_
                    refine px_PW.steps kt_195.2 1 rfl ?_
                    refine px_PW.ret kt_195.2 rfl rfl ?_
                    have E : s_msheet Z F k bits n = (1, Z, (va_up (va_up (va_up F 11 (upd (F 11) k bits)) 12 (upd (F 12) k 0)) 13 (zz_pl (fun _ => 0) (F 13) (24 * k) 24))) := (if_neg c1).trans ((if_neg c12).trans ((if_neg c23).trans ((if_pos c34).trans ((if_neg c35).trans ((if_pos c40).trans ((if_pos c41).trans (if_pos c42)))))))
                    rw [E]
                    exact ⟨rfl, _, _, px_sm.rf, rfl⟩
                · have c41 : ¬ (bits = 0) := of_decide_eq_false c41
                  refine px_PW.steps kt_195.2 3 rfl ?_
                  refine px_PW.br (fun c43 => ?_) (fun c43 => ?_)
                  · have c43 : n ≤ 24 := of_decide_eq_true c43
                    refine px_PW.steps kt_195.2 4 rfl ?_
                    refine ms_11 kt_195.2 rfl (n := k) rfl hk ?_
                    refine px_PW.steps kt_195.2 5 rfl ?_
                    refine px_PW.br (fun c44 => ?_) (fun c44 => ?_)
                    · have c44 : ¬ (bits = 0) := of_decide_eq_false (px_nt c44)
                      refine px_PW.steps kt_195.2 1 rfl ?_
                      refine ms_12 kt_195.2 rfl (n := k) rfl hk ?_
                      refine px_PW.steps kt_195.2 2 rfl ?_
                      refine px_PW.hp (h' := ([], px_MH Z (va_up (va_up (va_up F 11 (upd (F 11) k bits)) 12 (upd (F 12) k n)) 13 (zz_pl (fun _ => 0) (F 13) (24 * k) 0)))) (by rw [zz_pl_0]; exact congrArg (fun z => ([], px_MH Z z)) (px_up_id (va_up (va_up F 11 (upd (F 11) k bits)) 12 (upd (F 12) k n)) 13).symm) ?_
                      refine m_sheet_loop hk 24 0 (by omega) ?_
                      refine px_PW.steps kt_195.2 1 rfl ?_
                      refine px_PW.ret kt_195.2 rfl rfl ?_
                      have E : s_msheet Z F k bits n = (1, Z, (va_up (va_up (va_up F 11 (upd (F 11) k bits)) 12 (upd (F 12) k n)) 13 (zz_pl (fun _ => 0) (F 13) (24 * k) 24))) := (if_neg c1).trans ((if_neg c12).trans ((if_neg c23).trans ((if_pos c34).trans ((if_neg c35).trans ((if_pos c40).trans ((if_neg c41).trans ((if_pos c43).trans (if_neg c44))))))))
                      rw [E]
                      exact ⟨rfl, _, _, px_sm.rf, rfl⟩
                    · have c44 : bits = 0 := of_decide_eq_true (px_nf c44)
                      refine px_PW.steps kt_195.2 2 rfl ?_
                      refine ms_12 kt_195.2 rfl (n := k) rfl hk ?_
                      refine px_PW.steps kt_195.2 2 rfl ?_
                      refine px_PW.hp (h' := ([], px_MH Z (va_up (va_up (va_up F 11 (upd (F 11) k bits)) 12 (upd (F 12) k 0)) 13 (zz_pl (fun _ => 0) (F 13) (24 * k) 0)))) (by rw [zz_pl_0]; exact congrArg (fun z => ([], px_MH Z z)) (px_up_id (va_up (va_up F 11 (upd (F 11) k bits)) 12 (upd (F 12) k 0)) 13).symm) ?_
                      refine m_sheet_loop hk 24 0 (by omega) ?_
                      refine px_PW.steps kt_195.2 1 rfl ?_
                      refine px_PW.ret kt_195.2 rfl rfl ?_
                      have E : s_msheet Z F k bits n = (1, Z, (va_up (va_up (va_up F 11 (upd (F 11) k bits)) 12 (upd (F 12) k 0)) 13 (zz_pl (fun _ => 0) (F 13) (24 * k) 24))) := (if_neg c1).trans ((if_neg c12).trans ((if_neg c23).trans ((if_pos c34).trans ((if_neg c35).trans ((if_pos c40).trans ((if_neg c41).trans ((if_pos c43).trans (if_pos c44))))))))
                      rw [E]
                      exact ⟨rfl, _, _, px_sm.rf, rfl⟩
                  · have c43 : ¬ (n ≤ 24) := of_decide_eq_false c43
                    refine px_PW.steps kt_195.2 2 rfl ?_
                    refine px_PW.callV kt_195.2 rfl rfl rfl rfl (mm_error 1 (by decide)) (by decide) (fun v h1 q => ?_)
                    obtain ⟨rfl, rfl⟩ := q
                    refine px_PW.ret kt_195.2 rfl rfl ?_
                    have E : s_msheet Z F k bits n = ((-1000000000 - 1), Z, F) := (if_neg c1).trans ((if_neg c12).trans ((if_neg c23).trans ((if_pos c34).trans ((if_neg c35).trans ((if_pos c40).trans ((if_neg c41).trans (if_neg c43)))))))
                    rw [E]
                    exact ⟨rfl, _, _, px_sm.err, rfl⟩
              · have c40 : ¬ (0 ≤ n) := of_decide_eq_false c40
                refine px_PW.steps kt_195.2 2 rfl ?_
                refine px_PW.callV kt_195.2 rfl rfl rfl rfl (mm_error 3 (by decide)) (by decide) (fun v h1 q => ?_)
                obtain ⟨rfl, rfl⟩ := q
                refine px_PW.ret kt_195.2 rfl rfl ?_
                have E : s_msheet Z F k bits n = ((-1000000000 - 3), Z, F) := (if_neg c1).trans ((if_neg c12).trans ((if_neg c23).trans ((if_pos c34).trans ((if_neg c35).trans (if_neg c40)))))
                rw [E]
                exact ⟨rfl, _, _, px_sm.err, rfl⟩
          · have c34 : ¬ (bits = 32) := of_decide_eq_false c34
            refine px_PW.steps kt_195.2 2 rfl ?_
            refine px_PW.callV kt_195.2 rfl rfl rfl rfl (mm_error 1 (by decide)) (by decide) (fun v h1 q => ?_)
            obtain ⟨rfl, rfl⟩ := q
            refine px_PW.ret kt_195.2 rfl rfl ?_
            have E : s_msheet Z F k bits n = ((-1000000000 - 1), Z, F) := (if_neg c1).trans ((if_neg c12).trans ((if_neg c23).trans (if_neg c34)))
            rw [E]
            exact ⟨rfl, _, _, px_sm.err, rfl⟩
def s_msheetB (Z : Nat → Int32) (F : Nat → Nat → Int32) (sheet : Int32) (bits : Int32) (n : Int32) : Int32 × (Nat → Int32) × (Nat → Nat → Int32) := ((-1000000000 - 1), Z, F)
theorem kc_msheetB {Z : Nat → Int32} {F : Nat → Nat → Int32}  (sheet : Int32) (bits : Int32) (n : Int32) (hb : sheet < 0 ∨ 4 ≤ sheet) : px_PM 3 195 [.ref 1000, .int sheet, .int bits, .int n] ([], px_MH Z F) (fun r h' => r = some (.int (s_msheetB Z F sheet bits n).1) ∧ ∃ Z' F', px_sm (s_msheetB Z F sheet bits n).2.1 (s_msheetB Z F sheet bits n).2.2 Z' F' ∧ h' = ([], px_MH Z' F')) := by
  refine px_PM.start (nL := 5) (code := pc_195) rfl rfl ?_
  refine px_PW.steps kt_195.2 1 rfl ?_
  refine px_PW.callS kt_195.2 rfl rfl rfl (mm_isSheet _ _) (by decide) (fun v h1 q => ?_)
  obtain ⟨rfl, rfl⟩ := q
  refine px_PW.steps kt_195.2 1 rfl ?_
  refine px_PW.br (fun c0 => ?_) (fun c0 => ?_)
  · have c0 : ¬ (0 ≤ sheet ∧ sheet ≤ 3) := px_b1z (of_decide_eq_true c0)
    refine px_PW.steps kt_195.2 2 rfl ?_
    refine px_PW.callV kt_195.2 rfl rfl rfl rfl (mm_error 1 (by decide)) (by decide) (fun v h1 q => ?_)
    obtain ⟨rfl, rfl⟩ := q
    refine px_PW.ret kt_195.2 rfl rfl ?_
    have E : s_msheetB Z F sheet bits n = ((-1000000000 - 1), Z, F) := rfl
    rw [E]
    exact ⟨rfl, _, _, px_sm.err, rfl⟩
  · have c0 : 0 ≤ sheet ∧ sheet ≤ 3 := px_b1n (of_decide_eq_false c0)
    exact absurd c0 (px_sh_no hb)
end
/-! part 40.mmove -/
section
theorem px_ix3 (k a t : Nat) : 24 * nI k + nI a + nI t = nI (24 * k + a + t) := by
  rw [show (24 : Int32) = nI 24 from rfl, zz_mul, nI_add, nI_add]
theorem m_mv1_loop {Z : Nat → Int32} {F : Nat → Nat → Int32} {k k2 a b n : Nat} (hk : k < 4) (hk2 : k2 < 4) (ha : a + n ≤ 24) (hb : b + n ≤ 24) {Q : Option Value → px_H → Prop} : ∀ (m t : Nat), t + m = n → px_PW 2 pc_197 Q 149 [some (.ref 1000), some (.int (nI k)), some (.int (nI a)), some (.int (nI k2)), some (.int (nI b)), some (.int (nI n)), some (.int (nI n))] [] ([], px_MH Z (va_up F 14 (zz_pl (fun t => F 13 (24 * k + a + t)) (F 14) 0 n))) → px_PW 2 pc_197 Q 115 [some (.ref 1000), some (.int (nI k)), some (.int (nI a)), some (.int (nI k2)), some (.int (nI b)), some (.int (nI n)), some (.int (nI t))] [] ([], px_MH Z (va_up F 14 (zz_pl (fun t => F 13 (24 * k + a + t)) (F 14) 0 t)))
  | m, t, ht, H => by
    refine px_PW.steps kt_197.2 3 rfl ?_
    refine px_PW.br (fun c0 => ?_) (fun c0 => ?_)
    · have c0 : (nI n) ≤ (nI t) := of_decide_eq_true c0
      have c0 : n ≤ t := (nI_leI (a := n) (b := t) (by omega) (by omega)).mp c0
      obtain rfl : m = 0 := by omega
      obtain rfl : t = n := by omega
      exact H
    · have c0 : ¬ ((nI n) ≤ (nI t)) := of_decide_eq_false c0
      have c0 : ¬ (n ≤ t) := fun q => c0 ((nI_leI (a := n) (b := t) (by omega) (by omega)).mpr q)
      obtain ⟨m2, rfl⟩ : ∃ m2, m = m2 + 1 := ⟨m - 1, by omega⟩
      refine px_PW.steps kt_197.2 12 rfl ?_
      refine px_PW.aldN kt_197.2 rfl rfl (n := 24 * k + a + t) (px_ix3 k a t) (by omega) ?_
      refine ms_14 kt_197.2 rfl (n := t) rfl (by omega) ?_
      refine px_PW.steps kt_197.2 2 rfl ?_
      have g := m_mv1_loop hk hk2 ha hb (Z := Z) (F := F) (b := b) (Q := Q) m2 (t + 1) (by omega) H
      have e2 : (va_up F 14 (zz_pl (fun t => F 13 (24 * k + a + t)) (F 14) 0 (t + 1))) = (va_up (va_up F 14 (zz_pl (fun t => F 13 (24 * k + a + t)) (F 14) 0 t)) 14 (upd (zz_pl (fun t => F 13 (24 * k + a + t)) (F 14) 0 t) t (F 13 (24 * k + a + t)))) := by rw [px_up_up, ← zz_pl_s0]
      rw [e2, nI_succ t] at g
      exact g
theorem m_mv2_loop {Z : Nat → Int32} {G : Nat → Nat → Int32} {k k2 a b n : Nat} (hk : k < 4) (hk2 : k2 < 4) (ha : a + n ≤ 24) (hb : b + n ≤ 24) {Q : Option Value → px_H → Prop} : ∀ (m t : Nat), t + m = n → px_PW 2 pc_197 Q 187 [some (.ref 1000), some (.int (nI k)), some (.int (nI a)), some (.int (nI k2)), some (.int (nI b)), some (.int (nI n)), some (.int (nI n))] [] ([], px_MH Z (va_up G 13 (zz_pl (G 14) (G 13) (24 * k2 + b) n))) → px_PW 2 pc_197 Q 152 [some (.ref 1000), some (.int (nI k)), some (.int (nI a)), some (.int (nI k2)), some (.int (nI b)), some (.int (nI n)), some (.int (nI t))] [] ([], px_MH Z (va_up G 13 (zz_pl (G 14) (G 13) (24 * k2 + b) t)))
  | m, t, ht, H => by
    refine px_PW.steps kt_197.2 3 rfl ?_
    refine px_PW.br (fun c0 => ?_) (fun c0 => ?_)
    · have c0 : (nI n) ≤ (nI t) := of_decide_eq_true c0
      have c0 : n ≤ t := (nI_leI (a := n) (b := t) (by omega) (by omega)).mp c0
      obtain rfl : m = 0 := by omega
      obtain rfl : t = n := by omega
      exact H
    · have c0 : ¬ ((nI n) ≤ (nI t)) := of_decide_eq_false c0
      have c0 : ¬ (n ≤ t) := fun q => c0 ((nI_leI (a := n) (b := t) (by omega) (by omega)).mpr q)
      obtain ⟨m2, rfl⟩ : ∃ m2, m = m2 + 1 := ⟨m - 1, by omega⟩
      refine px_PW.steps kt_197.2 12 rfl ?_
      refine px_PW.aldN kt_197.2 rfl rfl (n := t) rfl (by omega) ?_
      refine ms_13 kt_197.2 rfl (n := 24 * k2 + b + t) (px_ix3 k2 b t) (by omega) ?_
      refine px_PW.steps kt_197.2 2 rfl ?_
      have g := m_mv2_loop hk hk2 ha hb (Z := Z) (G := G) (a := a) (Q := Q) m2 (t + 1) (by omega) H
      have e2 : (va_up G 13 (zz_pl (G 14) (G 13) (24 * k2 + b) (t + 1))) = (va_up (va_up G 13 (zz_pl (G 14) (G 13) (24 * k2 + b) t)) 13 (upd (zz_pl (G 14) (G 13) (24 * k2 + b) t) (24 * k2 + b + t) (G 14 t))) := by rw [px_up_up, ← zz_pl_s]
      rw [e2, nI_succ t] at g
      exact g
theorem px_mvok {i j n x y : Int32} {S S2 : Nat} (hS : x = nI S) (hS2 : y = nI S2) (hS24 : S ≤ 24) (hS224 : S2 ≤ 24) (c0 : ¬ (n < 0)) (c1 : ¬ (i < 0)) (c2 : ¬ (j < 0)) (c3 : ¬ (x - n < i)) (c4 : j ≤ y - n) : (i = nI i.toNatClampNeg ∧ j = nI j.toNatClampNeg ∧ n = nI n.toNatClampNeg) ∧ i.toNatClampNeg + n.toNatClampNeg ≤ S ∧ j.toNatClampNeg + n.toNatClampNeg ≤ S2 := by
  obtain ⟨nn, hn, rfl⟩ := nI_of c0
  obtain ⟨a, ha, rfl⟩ := nI_of c1
  obtain ⟨b, hb, rfl⟩ := nI_of c2
  subst hS hS2
  rw [nI_clamp hn, nI_clamp ha, nI_clamp hb]
  have key : ∀ S a : Nat, S ≤ 24 → a < 2 ^ 31 → nI a ≤ nI S - nI nn → a + nn ≤ S := by
    intro S a hS ha h
    have e : (nI S - nI nn).toInt = (S : Int) - nn := by
      rw [Int32.toInt_sub, nI_toInt (by omega), nI_toInt hn]
      exact Int.bmod_eq_of_le (by omega) (by omega)
    rw [Int32.le_iff_toInt_le, e, nI_toInt ha] at h
    omega
  exact ⟨⟨rfl, rfl, rfl⟩, key S a hS24 ha (Int32.not_lt.mp c3), key S2 b hS224 hb c4⟩
def s_mmove (Z : Nat → Int32) (F : Nat → Nat → Int32) (k : Nat) (i : Int32) (k2 : Nat) (j : Int32) (n : Int32) : Int32 × (Nat → Int32) × (Nat → Nat → Int32) := (if ((F 11) k) = 0 then ((-1000000000 - 2), Z, F) else (if ((F 11) k2) = 0 then ((-1000000000 - 2), Z, F) else (if ((F 11) k) = ((F 11) k2) then (if n < 0 then ((-1000000000 - 1), Z, F) else (if i < 0 then ((-1000000000 - 1), Z, F) else (if j < 0 then ((-1000000000 - 1), Z, F) else (if (((F 12) k) - n) < i then ((-1000000000 - 1), Z, F) else (if j ≤ (((F 12) k2) - n) then ((nI n.toNatClampNeg), Z, (va_up (va_up F 14 (zz_pl (fun t => F 13 (24 * k + i.toNatClampNeg + t)) (F 14) 0 n.toNatClampNeg)) 13 (zz_pl ((va_up F 14 (zz_pl (fun t => F 13 (24 * k + i.toNatClampNeg + t)) (F 14) 0 n.toNatClampNeg)) 14) ((va_up F 14 (zz_pl (fun t => F 13 (24 * k + i.toNatClampNeg + t)) (F 14) 0 n.toNatClampNeg)) 13) (24 * k2 + j.toNatClampNeg) n.toNatClampNeg))) else ((-1000000000 - 1), Z, F)))))) else ((-1000000000 - 5), Z, F))))
theorem kc_mmove {Z : Nat → Int32} {F : Nat → Nat → Int32}  (k : Nat) (i : Int32) (k2 : Nat) (j : Int32) (n : Int32) (hk : k < 4) (hk2 : k2 < 4) {S S2 : Nat} (hS : F 12 k = nI S) (hS2 : F 12 k2 = nI S2) (hS24 : S ≤ 24) (hS224 : S2 ≤ 24) : px_PM 3 197 [.ref 1000, .int (nI k), .int i, .int (nI k2), .int j, .int n] ([], px_MH Z F) (fun r h' => r = some (.int (s_mmove Z F k i k2 j n).1) ∧ ∃ Z' F', px_sm (s_mmove Z F k i k2 j n).2.1 (s_mmove Z F k i k2 j n).2.2 Z' F' ∧ h' = ([], px_MH Z' F')) := by
  refine px_PM.start (nL := 7) (code := pc_197) rfl rfl ?_
  refine px_PW.steps kt_197.2 1 rfl ?_
  refine px_PW.callS kt_197.2 rfl rfl rfl (mm_isSheet _ _) (by decide) (fun v h1 q => ?_)
  obtain ⟨rfl, rfl⟩ := q
  refine px_PW.steps kt_197.2 1 rfl ?_
  refine px_PW.br (fun c0 => ?_) (fun c0 => ?_)
  · have c0 : ¬ (0 ≤ (nI k) ∧ (nI k) ≤ 3) := px_b1z (of_decide_eq_true c0)
    exact absurd (px_sh_ok hk) c0
  · have c0 : 0 ≤ (nI k) ∧ (nI k) ≤ 3 := px_b1n (of_decide_eq_false c0)
    refine px_PW.steps kt_197.2 1 rfl ?_
    refine px_PW.callS kt_197.2 rfl rfl rfl (mm_isSheet _ _) (by decide) (fun v h1 q => ?_)
    obtain ⟨rfl, rfl⟩ := q
    refine px_PW.steps kt_197.2 1 rfl ?_
    refine px_PW.br (fun c1 => ?_) (fun c1 => ?_)
    · have c1 : 0 ≤ (nI k2) ∧ (nI k2) ≤ 3 := px_b1n (of_decide_eq_false (px_nt c1))
      refine px_PW.steps kt_197.2 3 rfl ?_
      refine px_PW.aldN kt_197.2 rfl rfl (n := k) rfl hk ?_
      refine px_PW.steps kt_197.2 1 rfl ?_
      refine px_PW.br (fun c2 => ?_) (fun c2 => ?_)
      · have c2 : ((F 11) k) = 0 := of_decide_eq_true c2
        refine px_PW.steps kt_197.2 2 rfl ?_
        refine px_PW.callV kt_197.2 rfl rfl rfl rfl (mm_error 2 (by decide)) (by decide) (fun v h1 q => ?_)
        obtain ⟨rfl, rfl⟩ := q
        refine px_PW.ret kt_197.2 rfl rfl ?_
        have E : s_mmove Z F k i k2 j n = ((-1000000000 - 2), Z, F) := if_pos c2
        rw [E]
        exact ⟨rfl, _, _, px_sm.err, rfl⟩
      · have c2 : ¬ (((F 11) k) = 0) := of_decide_eq_false c2
        refine px_PW.steps kt_197.2 3 rfl ?_
        refine px_PW.aldN kt_197.2 rfl rfl (n := k2) rfl hk2 ?_
        refine px_PW.steps kt_197.2 1 rfl ?_
        refine px_PW.br (fun c3 => ?_) (fun c3 => ?_)
        · have c3 : ¬ (((F 11) k2) = 0) := of_decide_eq_false (px_nt c3)
          refine px_PW.steps kt_197.2 3 rfl ?_
          refine px_PW.aldN kt_197.2 rfl rfl (n := k) rfl hk ?_
          refine px_PW.steps kt_197.2 3 rfl ?_
          refine px_PW.aldN kt_197.2 rfl rfl (n := k2) rfl hk2 ?_
          refine px_PW.steps kt_197.2 1 rfl ?_
          refine px_PW.br (fun c4 => ?_) (fun c4 => ?_)
          · have c4 : ((F 11) k) = ((F 11) k2) := of_decide_eq_true c4
            refine px_PW.steps kt_197.2 2 rfl ?_
            refine px_PW.br (fun c5 => ?_) (fun c5 => ?_)
            · have c5 : n < 0 := of_decide_eq_true c5
              refine px_PW.steps kt_197.2 2 rfl ?_
              refine px_PW.callV kt_197.2 rfl rfl rfl rfl (mm_error 1 (by decide)) (by decide) (fun v h1 q => ?_)
              obtain ⟨rfl, rfl⟩ := q
              refine px_PW.ret kt_197.2 rfl rfl ?_
              have E : s_mmove Z F k i k2 j n = ((-1000000000 - 1), Z, F) := (if_neg c2).trans ((if_neg c3).trans ((if_pos c4).trans (if_pos c5)))
              rw [E]
              exact ⟨rfl, _, _, px_sm.err, rfl⟩
            · have c5 : ¬ (n < 0) := of_decide_eq_false c5
              refine px_PW.steps kt_197.2 2 rfl ?_
              refine px_PW.br (fun c6 => ?_) (fun c6 => ?_)
              · have c6 : i < 0 := of_decide_eq_true c6
                refine px_PW.steps kt_197.2 2 rfl ?_
                refine px_PW.callV kt_197.2 rfl rfl rfl rfl (mm_error 1 (by decide)) (by decide) (fun v h1 q => ?_)
                obtain ⟨rfl, rfl⟩ := q
                refine px_PW.ret kt_197.2 rfl rfl ?_
                have E : s_mmove Z F k i k2 j n = ((-1000000000 - 1), Z, F) := (if_neg c2).trans ((if_neg c3).trans ((if_pos c4).trans ((if_neg c5).trans (if_pos c6))))
                rw [E]
                exact ⟨rfl, _, _, px_sm.err, rfl⟩
              · have c6 : ¬ (i < 0) := of_decide_eq_false c6
                refine px_PW.steps kt_197.2 2 rfl ?_
                refine px_PW.br (fun c7 => ?_) (fun c7 => ?_)
                · have c7 : j < 0 := of_decide_eq_true c7
                  refine px_PW.steps kt_197.2 2 rfl ?_
                  refine px_PW.callV kt_197.2 rfl rfl rfl rfl (mm_error 1 (by decide)) (by decide) (fun v h1 q => ?_)
                  obtain ⟨rfl, rfl⟩ := q
                  refine px_PW.ret kt_197.2 rfl rfl ?_
                  have E : s_mmove Z F k i k2 j n = ((-1000000000 - 1), Z, F) := (if_neg c2).trans ((if_neg c3).trans ((if_pos c4).trans ((if_neg c5).trans ((if_neg c6).trans (if_pos c7)))))
                  rw [E]
                  exact ⟨rfl, _, _, px_sm.err, rfl⟩
                · have c7 : ¬ (j < 0) := of_decide_eq_false c7
                  refine px_PW.steps kt_197.2 4 rfl ?_
                  refine px_PW.aldN kt_197.2 rfl rfl (n := k) rfl hk ?_
                  refine px_PW.steps kt_197.2 3 rfl ?_
                  refine px_PW.br (fun c8 => ?_) (fun c8 => ?_)
                  · have c8 : (((F 12) k) - n) < i := of_decide_eq_true c8
                    refine px_PW.steps kt_197.2 2 rfl ?_
                    refine px_PW.callV kt_197.2 rfl rfl rfl rfl (mm_error 1 (by decide)) (by decide) (fun v h1 q => ?_)
                    obtain ⟨rfl, rfl⟩ := q
                    refine px_PW.ret kt_197.2 rfl rfl ?_
                    have E : s_mmove Z F k i k2 j n = ((-1000000000 - 1), Z, F) := (if_neg c2).trans ((if_neg c3).trans ((if_pos c4).trans ((if_neg c5).trans ((if_neg c6).trans ((if_neg c7).trans (if_pos c8))))))
                    rw [E]
                    exact ⟨rfl, _, _, px_sm.err, rfl⟩
                  · have c8 : ¬ ((((F 12) k) - n) < i) := of_decide_eq_false c8
                    refine px_PW.steps kt_197.2 4 rfl ?_
                    refine px_PW.aldN kt_197.2 rfl rfl (n := k2) rfl hk2 ?_
                    refine px_PW.steps kt_197.2 3 rfl ?_
                    refine px_PW.br (fun c9 => ?_) (fun c9 => ?_)
                    · have c9 : j ≤ (((F 12) k2) - n) := of_decide_eq_true c9
                      refine px_PW.steps kt_197.2 2 rfl ?_
                      have hm := px_mvok hS hS2 hS24 hS224 c5 c6 c7 c8 c9
                      refine px_PW.lc (lv' := [some (.ref 1000), some (.int (nI k)), some (.int (nI i.toNatClampNeg)), some (.int (nI k2)), some (.int (nI j.toNatClampNeg)), some (.int (nI n.toNatClampNeg)), some (.int (nI 0))]) (by rw [← hm.1.1, ← hm.1.2.1, ← hm.1.2.2]; rfl) ?_
                      refine px_PW.hp (h' := ([], px_MH Z (va_up F 14 (zz_pl (fun t => F 13 (24 * k + i.toNatClampNeg + t)) (F 14) 0 0)))) (by rw [zz_pl_0, px_up_id]) ?_
                      refine m_mv1_loop hk hk2 (a := i.toNatClampNeg) (b := j.toNatClampNeg) (n := n.toNatClampNeg) (by omega) (by omega) n.toNatClampNeg 0 (by omega) ?_
                      refine px_PW.steps kt_197.2 2 rfl ?_
                      refine px_PW.hp (h' := ([], px_MH Z (va_up (va_up F 14 (zz_pl (fun t => F 13 (24 * k + i.toNatClampNeg + t)) (F 14) 0 n.toNatClampNeg)) 13 (zz_pl ((va_up F 14 (zz_pl (fun t => F 13 (24 * k + i.toNatClampNeg + t)) (F 14) 0 n.toNatClampNeg)) 14) ((va_up F 14 (zz_pl (fun t => F 13 (24 * k + i.toNatClampNeg + t)) (F 14) 0 n.toNatClampNeg)) 13) (24 * k2 + j.toNatClampNeg) 0)))) (by rw [zz_pl_0, px_up_id]) ?_
                      refine m_mv2_loop hk hk2 (a := i.toNatClampNeg) (b := j.toNatClampNeg) (n := n.toNatClampNeg) (by omega) (by omega) n.toNatClampNeg 0 (by omega) ?_
                      refine px_PW.steps kt_197.2 1 rfl ?_
                      refine px_PW.ret kt_197.2 rfl rfl ?_
                      have E : s_mmove Z F k i k2 j n = ((nI n.toNatClampNeg), Z, (va_up (va_up F 14 (zz_pl (fun t => F 13 (24 * k + i.toNatClampNeg + t)) (F 14) 0 n.toNatClampNeg)) 13 (zz_pl ((va_up F 14 (zz_pl (fun t => F 13 (24 * k + i.toNatClampNeg + t)) (F 14) 0 n.toNatClampNeg)) 14) ((va_up F 14 (zz_pl (fun t => F 13 (24 * k + i.toNatClampNeg + t)) (F 14) 0 n.toNatClampNeg)) 13) (24 * k2 + j.toNatClampNeg) n.toNatClampNeg))) := (if_neg c2).trans ((if_neg c3).trans ((if_pos c4).trans ((if_neg c5).trans ((if_neg c6).trans ((if_neg c7).trans ((if_neg c8).trans (if_pos c9)))))))
                      rw [E]
                      exact ⟨rfl, _, _, px_sm.rf, rfl⟩
                    · have c9 : ¬ (j ≤ (((F 12) k2) - n)) := of_decide_eq_false c9
                      refine px_PW.steps kt_197.2 2 rfl ?_
                      refine px_PW.callV kt_197.2 rfl rfl rfl rfl (mm_error 1 (by decide)) (by decide) (fun v h1 q => ?_)
                      obtain ⟨rfl, rfl⟩ := q
                      refine px_PW.ret kt_197.2 rfl rfl ?_
                      have E : s_mmove Z F k i k2 j n = ((-1000000000 - 1), Z, F) := (if_neg c2).trans ((if_neg c3).trans ((if_pos c4).trans ((if_neg c5).trans ((if_neg c6).trans ((if_neg c7).trans ((if_neg c8).trans (if_neg c9)))))))
                      rw [E]
                      exact ⟨rfl, _, _, px_sm.err, rfl⟩
          · have c4 : ¬ (((F 11) k) = ((F 11) k2)) := of_decide_eq_false c4
            refine px_PW.steps kt_197.2 2 rfl ?_
            refine px_PW.callV kt_197.2 rfl rfl rfl rfl (mm_error 5 (by decide)) (by decide) (fun v h1 q => ?_)
            obtain ⟨rfl, rfl⟩ := q
            refine px_PW.ret kt_197.2 rfl rfl ?_
            have E : s_mmove Z F k i k2 j n = ((-1000000000 - 5), Z, F) := (if_neg c2).trans ((if_neg c3).trans (if_neg c4))
            rw [E]
            exact ⟨rfl, _, _, px_sm.err, rfl⟩
        · have c3 : ((F 11) k2) = 0 := of_decide_eq_true (px_nf c3)
          refine px_PW.steps kt_197.2 2 rfl ?_
          refine px_PW.callV kt_197.2 rfl rfl rfl rfl (mm_error 2 (by decide)) (by decide) (fun v h1 q => ?_)
          obtain ⟨rfl, rfl⟩ := q
          refine px_PW.ret kt_197.2 rfl rfl ?_
          have E : s_mmove Z F k i k2 j n = ((-1000000000 - 2), Z, F) := (if_neg c2).trans (if_pos c3)
          rw [E]
          exact ⟨rfl, _, _, px_sm.err, rfl⟩
    · have c1 : ¬ (0 ≤ (nI k2) ∧ (nI k2) ≤ 3) := px_b1z (of_decide_eq_true (px_nf c1))
      exact absurd (px_sh_ok hk2) c1
def s_mmoveB1 (Z : Nat → Int32) (F : Nat → Nat → Int32) (sheet : Int32) (i : Int32) (k2 : Nat) (j : Int32) (n : Int32) : Int32 × (Nat → Int32) × (Nat → Nat → Int32) := ((-1000000000 - 1), Z, F)
theorem kc_mmoveB1 {Z : Nat → Int32} {F : Nat → Nat → Int32}  (sheet : Int32) (i : Int32) (k2 : Nat) (j : Int32) (n : Int32) (hb : sheet < 0 ∨ 4 ≤ sheet) (hk2 : k2 < 4) : px_PM 3 197 [.ref 1000, .int sheet, .int i, .int (nI k2), .int j, .int n] ([], px_MH Z F) (fun r h' => r = some (.int (s_mmoveB1 Z F sheet i k2 j n).1) ∧ ∃ Z' F', px_sm (s_mmoveB1 Z F sheet i k2 j n).2.1 (s_mmoveB1 Z F sheet i k2 j n).2.2 Z' F' ∧ h' = ([], px_MH Z' F')) := by
  refine px_PM.start (nL := 7) (code := pc_197) rfl rfl ?_
  refine px_PW.steps kt_197.2 1 rfl ?_
  refine px_PW.callS kt_197.2 rfl rfl rfl (mm_isSheet _ _) (by decide) (fun v h1 q => ?_)
  obtain ⟨rfl, rfl⟩ := q
  refine px_PW.steps kt_197.2 1 rfl ?_
  refine px_PW.br (fun c0 => ?_) (fun c0 => ?_)
  · have c0 : ¬ (0 ≤ sheet ∧ sheet ≤ 3) := px_b1z (of_decide_eq_true c0)
    refine px_PW.steps kt_197.2 2 rfl ?_
    refine px_PW.callV kt_197.2 rfl rfl rfl rfl (mm_error 1 (by decide)) (by decide) (fun v h1 q => ?_)
    obtain ⟨rfl, rfl⟩ := q
    refine px_PW.ret kt_197.2 rfl rfl ?_
    have E : s_mmoveB1 Z F sheet i k2 j n = ((-1000000000 - 1), Z, F) := rfl
    rw [E]
    exact ⟨rfl, _, _, px_sm.err, rfl⟩
  · have c0 : 0 ≤ sheet ∧ sheet ≤ 3 := px_b1n (of_decide_eq_false c0)
    exact absurd c0 (px_sh_no hb)
def s_mmoveB2 (Z : Nat → Int32) (F : Nat → Nat → Int32) (k : Nat) (i : Int32) (other : Int32) (j : Int32) (n : Int32) : Int32 × (Nat → Int32) × (Nat → Nat → Int32) := ((-1000000000 - 1), Z, F)
theorem kc_mmoveB2 {Z : Nat → Int32} {F : Nat → Nat → Int32}  (k : Nat) (i : Int32) (other : Int32) (j : Int32) (n : Int32) (hk : k < 4) (hb2 : other < 0 ∨ 4 ≤ other) : px_PM 3 197 [.ref 1000, .int (nI k), .int i, .int other, .int j, .int n] ([], px_MH Z F) (fun r h' => r = some (.int (s_mmoveB2 Z F k i other j n).1) ∧ ∃ Z' F', px_sm (s_mmoveB2 Z F k i other j n).2.1 (s_mmoveB2 Z F k i other j n).2.2 Z' F' ∧ h' = ([], px_MH Z' F')) := by
  refine px_PM.start (nL := 7) (code := pc_197) rfl rfl ?_
  refine px_PW.steps kt_197.2 1 rfl ?_
  refine px_PW.callS kt_197.2 rfl rfl rfl (mm_isSheet _ _) (by decide) (fun v h1 q => ?_)
  obtain ⟨rfl, rfl⟩ := q
  refine px_PW.steps kt_197.2 1 rfl ?_
  refine px_PW.br (fun c0 => ?_) (fun c0 => ?_)
  · have c0 : ¬ (0 ≤ (nI k) ∧ (nI k) ≤ 3) := px_b1z (of_decide_eq_true c0)
    exact absurd (px_sh_ok hk) c0
  · have c0 : 0 ≤ (nI k) ∧ (nI k) ≤ 3 := px_b1n (of_decide_eq_false c0)
    refine px_PW.steps kt_197.2 1 rfl ?_
    refine px_PW.callS kt_197.2 rfl rfl rfl (mm_isSheet _ _) (by decide) (fun v h1 q => ?_)
    obtain ⟨rfl, rfl⟩ := q
    refine px_PW.steps kt_197.2 1 rfl ?_
    refine px_PW.br (fun c1 => ?_) (fun c1 => ?_)
    · have c1 : 0 ≤ other ∧ other ≤ 3 := px_b1n (of_decide_eq_false (px_nt c1))
      exact absurd c1 (px_sh_no hb2)
    · have c1 : ¬ (0 ≤ other ∧ other ≤ 3) := px_b1z (of_decide_eq_true (px_nf c1))
      refine px_PW.steps kt_197.2 2 rfl ?_
      refine px_PW.callV kt_197.2 rfl rfl rfl rfl (mm_error 1 (by decide)) (by decide) (fun v h1 q => ?_)
      obtain ⟨rfl, rfl⟩ := q
      refine px_PW.ret kt_197.2 rfl rfl ?_
      have E : s_mmoveB2 Z F k i other j n = ((-1000000000 - 1), Z, F) := rfl
      rw [E]
      exact ⟨rfl, _, _, px_sm.err, rfl⟩
def s_mmoveB3 (Z : Nat → Int32) (F : Nat → Nat → Int32) (sheet : Int32) (i : Int32) (other : Int32) (j : Int32) (n : Int32) : Int32 × (Nat → Int32) × (Nat → Nat → Int32) := ((-1000000000 - 1), Z, F)
theorem kc_mmoveB3 {Z : Nat → Int32} {F : Nat → Nat → Int32}  (sheet : Int32) (i : Int32) (other : Int32) (j : Int32) (n : Int32) (hb : sheet < 0 ∨ 4 ≤ sheet) (hb2 : other < 0 ∨ 4 ≤ other) : px_PM 3 197 [.ref 1000, .int sheet, .int i, .int other, .int j, .int n] ([], px_MH Z F) (fun r h' => r = some (.int (s_mmoveB3 Z F sheet i other j n).1) ∧ ∃ Z' F', px_sm (s_mmoveB3 Z F sheet i other j n).2.1 (s_mmoveB3 Z F sheet i other j n).2.2 Z' F' ∧ h' = ([], px_MH Z' F')) := by
  refine px_PM.start (nL := 7) (code := pc_197) rfl rfl ?_
  refine px_PW.steps kt_197.2 1 rfl ?_
  refine px_PW.callS kt_197.2 rfl rfl rfl (mm_isSheet _ _) (by decide) (fun v h1 q => ?_)
  obtain ⟨rfl, rfl⟩ := q
  refine px_PW.steps kt_197.2 1 rfl ?_
  refine px_PW.br (fun c0 => ?_) (fun c0 => ?_)
  · have c0 : ¬ (0 ≤ sheet ∧ sheet ≤ 3) := px_b1z (of_decide_eq_true c0)
    refine px_PW.steps kt_197.2 2 rfl ?_
    refine px_PW.callV kt_197.2 rfl rfl rfl rfl (mm_error 1 (by decide)) (by decide) (fun v h1 q => ?_)
    obtain ⟨rfl, rfl⟩ := q
    refine px_PW.ret kt_197.2 rfl rfl ?_
    have E : s_mmoveB3 Z F sheet i other j n = ((-1000000000 - 1), Z, F) := rfl
    rw [E]
    exact ⟨rfl, _, _, px_sm.err, rfl⟩
  · have c0 : 0 ≤ sheet ∧ sheet ≤ 3 := px_b1n (of_decide_eq_false c0)
    exact absurd c0 (px_sh_no hb)
def zz_fr (g f : Nat → Int32) (n : Nat) : Nat → Int32 := fun j => if 12 ≤ j ∧ j < 12 + 4 * n ∧ (j - 12) % 4 = 2 then g ((j - 12) / 4) else f j
theorem zz_fr_0 (g f : Nat → Int32) : zz_fr g f 0 = f := by
  funext j
  unfold zz_fr
  rw [if_neg (by omega)]
theorem zz_fr_s (g f : Nat → Int32) (n : Nat) : upd (zz_fr g f n) (12 + 4 * n + 2) (g n) = zz_fr g f (n + 1) := by
  funext j
  unfold zz_fr upd
  by_cases h : j = 12 + 4 * n + 2
  · subst h
    rw [if_pos rfl, if_pos (by omega), show (12 + 4 * n + 2 - 12) / 4 = n by omega]
  · rw [if_neg h]
    show (if 12 ≤ j ∧ j < 12 + 4 * n ∧ (j - 12) % 4 = 2 then g ((j - 12) / 4) else f j) = _
    by_cases h2 : 12 ≤ j ∧ j < 12 + 4 * n ∧ (j - 12) % 4 = 2
    · rw [if_pos h2, if_pos (by omega)]
    · rw [if_neg h2, if_neg (by omega)]
theorem zz_fr_lo (g f : Nat → Int32) (n : Nat) {j : Nat} (h : j < 12) : zz_fr g f n j = f j := by
  unfold zz_fr
  rw [if_neg (by omega)]
def s_mplp (F : Nat → Nat → Int32) (k j : Nat) : Bool := decide (0 ≤ F 13 (24 * k + j) ∧ F 13 (24 * k + j) ≤ 4000)
theorem px_pred {j M : Nat} (h : j < M) (hM : M < 1000) : nI j ≤ nI M - 1 := by
  obtain ⟨m, rfl⟩ : ∃ m, M = m + 1 := ⟨M - 1, by omega⟩
  rw [nI_pred]
  exact nI_le (by omega) (by omega)
theorem m_pl_loop {Z : Nat → Int32} {F : Nat → Nat → Int32} {k S M : Nat} (hk : k < 4) (hS : F 12 k = nI S) (hS24 : S ≤ 24) (hM : F 0 10 = nI M) (hM6 : M ≤ 6) {B : Nat} (hB : B = min S M) {Q : Option Value → px_H → Prop} {w2 : Int32} : ∀ (m j : Nat), j + m = B → (px_PW 3 pc_199 Q 80 [some (.ref 1000), some (.int (nI k)), some (.int w2), some (.int (nI (zz_run (s_mplp F k) m j)))] [] ([], px_MH Z (va_up F 0 (zz_fr (fun t => F 13 (24 * k + t)) (F 0) (zz_run (s_mplp F k) m j))))) → px_PW 3 pc_199 Q 18 [some (.ref 1000), some (.int (nI k)), some (.int w2), some (.int (nI j))] [] ([], px_MH Z (va_up F 0 (zz_fr (fun t => F 13 (24 * k + t)) (F 0) j)))
  | m, j, hj, H => by
    refine px_PW.steps kt_199.2 4 rfl ?_
    refine px_PW.aldN kt_199.2 rfl rfl (n := k) rfl hk ?_
    rw [show va_up F 0 (zz_fr (fun t => F 13 (24 * k + t)) (F 0) j) 12 k = nI S from hS]
    refine px_PW.steps kt_199.2 1 rfl ?_
    refine px_PW.br (fun c0 => ?_) (fun c0 => ?_)
    · have c0 : (nI S) ≤ (nI j) := of_decide_eq_true c0
      have c0 : S ≤ j := (nI_leI (a := S) (b := j) (by omega) (by omega)).mp c0
      obtain rfl : m = 0 := by omega
      exact H
    · have c0 : ¬ ((nI S) ≤ (nI j)) := of_decide_eq_false c0
      have c0 : ¬ (S ≤ j) := fun q => c0 ((nI_leI (a := S) (b := j) (by omega) (by omega)).mpr q)
      refine px_PW.steps kt_199.2 2 rfl ?_
      refine px_PW.callV kt_199.2 rfl rfl rfl rfl (mm_isThing _) (by decide) (fun v h1 q => ?_)
      obtain ⟨rfl, rfl⟩ := q
      rw [show va_up F 0 (zz_fr (fun t => F 13 (24 * k + t)) (F 0) j) 0 10 = nI M from (zz_fr_lo (fun t => F 13 (24 * k + t)) (F 0) j (by decide)).trans hM]
      refine px_PW.steps kt_199.2 1 rfl ?_
      refine px_PW.br (fun c1 => ?_) (fun c1 => ?_)
      · have c1 : ¬ (0 ≤ (nI j) ∧ (nI j) ≤ (nI M) - 1) := px_b1z (of_decide_eq_true c1)
        have c1 : ¬ (j < M) := fun q => c1 ⟨nI_pos' (by omega), px_pred q (by omega)⟩
        obtain rfl : m = 0 := by omega
        exact H
      · have c1 : 0 ≤ (nI j) ∧ (nI j) ≤ (nI M) - 1 := px_b1n (of_decide_eq_false c1)
        have c1 : j < M := by have h := (px_inS (x := nI M) rfl (by omega) c1).2; rw [nI_clamp (by omega)] at h; exact h
        obtain ⟨m2, rfl⟩ : ∃ m2, m = m2 + 1 := ⟨m - 1, by omega⟩
        refine px_PW.steps kt_199.2 7 rfl ?_
        refine px_PW.aldN kt_199.2 rfl rfl (n := 24 * k + j) (px_ixS rfl) (by omega) ?_
        refine px_PW.steps kt_199.2 2 rfl ?_
        refine px_PW.callS kt_199.2 rfl rfl rfl (cm_117 _ _ _ _) (by decide) (fun v h1 q => ?_)
        obtain ⟨rfl, rfl⟩ := q
        refine px_PW.steps kt_199.2 1 rfl ?_
        refine px_PW.br (fun c2 => ?_) (fun c2 => ?_)
        · have c2 : ¬ (0 ≤ (F 13 (24 * k + j)) ∧ (F 13 (24 * k + j)) ≤ 4000) := px_b1z (of_decide_eq_true c2)
          rw [zz_run_n (show ¬ (s_mplp F k j = true) from fun q => c2 (of_decide_eq_true q))] at H
          exact H
        · have c2 : 0 ≤ (F 13 (24 * k + j)) ∧ (F 13 (24 * k + j)) ≤ 4000 := px_b1n (of_decide_eq_false c2)
          refine px_PW.steps kt_199.2 10 rfl ?_
          refine px_PW.aldN kt_199.2 rfl rfl (n := 24 * k + j) (px_ixS rfl) (by omega) ?_
          refine px_PW.callV kt_199.2 rfl rfl rfl rfl (mm_laysC (n := j) (k := 2) rfl rfl (by omega) (by omega) _) (by decide) (fun v h1 q => ?_)
          obtain ⟨rfl, rfl⟩ := q
          refine px_PW.steps kt_199.2 2 rfl ?_
          rw [zz_run_y (show s_mplp F k j = true from decide_eq_true c2)] at H
          have g := m_pl_loop hk hS hS24 hM hM6 hB (Z := Z) (Q := Q) (w2 := w2) m2 (j + 1) (by omega) H
          rw [← zz_fr_s, nI_succ j] at g
          exact g
theorem mm_errorL {Z : Nat → Int32} {F : Nat → Nat → Int32} {k : Nat} (hk : k < 4) (c : ¬ (s_lacks F k = 0)) : px_PM 1 116 [.ref 1000, .int (s_lacks F k)] ([], px_MH Z F) (fun r h' => r = some (.int (-1000000000 - 2)) ∧ h' = ([], px_MH Z (va_up F 2 (upd (F 2) 2 (F 2 2 + 1))))) := by
  have e : s_lacks F k = Int32.ofNat 2 := by
    unfold s_lacks at c ⊢
    split
    · rfl
    · next h => rw [if_neg h] at c; exact absurd rfl c
  rw [e]
  exact mm_error 2 (by decide)
def s_mplaces (S M : Nat) (Z : Nat → Int32) (F : Nat → Nat → Int32) (k : Nat) : Int32 × (Nat → Int32) × (Nat → Nat → Int32) := (if (s_lacks F k) = 0 then ((nI (zz_run (s_mplp F k) (min S M) 0)), Z, (va_up F 0 (zz_fr (fun t => F 13 (24 * k + t)) (F 0) (zz_run (s_mplp F k) (min S M) 0)))) else ((-1000000000 - 2), Z, F))
theorem kc_mplaces {Z : Nat → Int32} {F : Nat → Nat → Int32}  (k : Nat) (hk : k < 4) {S M : Nat} (hS : F 12 k = nI S) (hS24 : S ≤ 24) (hM : F 0 10 = nI M) (hM6 : M ≤ 6) : px_PM 4 199 [.ref 1000, .int (nI k)] ([], px_MH Z F) (fun r h' => r = some (.int (s_mplaces S M Z F k).1) ∧ ∃ Z' F', px_sm (s_mplaces S M Z F k).2.1 (s_mplaces S M Z F k).2.2 Z' F' ∧ h' = ([], px_MH Z' F')) := by
  refine px_PM.start (nL := 4) (code := pc_199) rfl rfl ?_
  refine px_PW.steps kt_199.2 2 rfl ?_
  refine px_PW.callV kt_199.2 rfl rfl rfl rfl (mm_lacks hk) (by decide) (fun v h1 q => ?_)
  obtain ⟨rfl, rfl⟩ := q
  refine px_PW.steps kt_199.2 3 rfl ?_
  refine px_PW.br (fun c0 => ?_) (fun c0 => ?_)
  · have c0 : (s_lacks F k) = 0 := of_decide_eq_true c0
    refine px_PW.steps kt_199.2 2 rfl ?_
    refine px_PW.hp (h' := ([], px_MH Z (va_up F 0 (zz_fr (fun t => F 13 (24 * k + t)) (F 0) 0)))) (by rw [zz_fr_0, px_up_id]) ?_
    refine m_pl_loop hk hS hS24 hM hM6 rfl (min S M) 0 (by omega) ?_
    refine px_PW.steps kt_199.2 1 rfl ?_
    refine px_PW.ret kt_199.2 rfl rfl ?_
    have E : s_mplaces S M Z F k = ((nI (zz_run (s_mplp F k) (min S M) 0)), Z, (va_up F 0 (zz_fr (fun t => F 13 (24 * k + t)) (F 0) (zz_run (s_mplp F k) (min S M) 0)))) := if_pos c0
    rw [E]
    exact ⟨rfl, _, _, px_sm.rf, rfl⟩
  · have c0 : ¬ ((s_lacks F k) = 0) := of_decide_eq_false c0
    refine px_PW.steps kt_199.2 2 rfl ?_
    refine px_PW.callV kt_199.2 rfl rfl rfl rfl (mm_errorL hk c0) (by decide) (fun v h1 q => ?_)
    obtain ⟨rfl, rfl⟩ := q
    refine px_PW.ret kt_199.2 rfl rfl ?_
    have E : s_mplaces S M Z F k = ((-1000000000 - 2), Z, F) := if_neg c0
    rw [E]
    exact ⟨rfl, _, _, px_sm.err, rfl⟩
def s_mplacesB (Z : Nat → Int32) (F : Nat → Nat → Int32) (sheet : Int32) : Int32 × (Nat → Int32) × (Nat → Nat → Int32) := ((-1000000000 - 1), Z, F)
theorem kc_mplacesB {Z : Nat → Int32} {F : Nat → Nat → Int32}  (sheet : Int32) (hb : sheet < 0 ∨ 4 ≤ sheet) : px_PM 4 199 [.ref 1000, .int sheet] ([], px_MH Z F) (fun r h' => r = some (.int (s_mplacesB Z F sheet).1) ∧ ∃ Z' F', px_sm (s_mplacesB Z F sheet).2.1 (s_mplacesB Z F sheet).2.2 Z' F' ∧ h' = ([], px_MH Z' F')) := by
  refine px_PM.start (nL := 4) (code := pc_199) rfl rfl ?_
  refine px_PW.steps kt_199.2 2 rfl ?_
  refine px_PW.callV kt_199.2 rfl rfl rfl rfl (mm_lacksB hb) (by decide) (fun v h1 q => ?_)
  obtain ⟨rfl, rfl⟩ := q
  refine px_PW.steps kt_199.2 3 rfl ?_
  refine px_PW.br (fun c0 => ?_) (fun c0 => ?_)
  · have c0 : (1 : Int32) = 0 := of_decide_eq_true c0
    exact absurd c0 (by decide)
  · have c0 : ¬ ((1 : Int32) = 0) := of_decide_eq_false c0
    refine px_PW.steps kt_199.2 2 rfl ?_
    refine px_PW.callV kt_199.2 rfl rfl rfl rfl (mm_error 1 (by decide)) (by decide) (fun v h1 q => ?_)
    obtain ⟨rfl, rfl⟩ := q
    refine px_PW.ret kt_199.2 rfl rfl ?_
    have E : s_mplacesB Z F sheet = ((-1000000000 - 1), Z, F) := rfl
    rw [E]
    exact ⟨rfl, _, _, px_sm.err, rfl⟩
def s_mckp (M : Nat) (f : Nat → Int32) (j : Nat) : Bool := decide (j < M) && decide (f (346 + j) = f (12 + 4 * j + 2))
theorem m_ck_loop {Z f : Nat → Int32} {F : Nat → Nat → Int32} {M W : Nat} (hM : f 10 = nI M) (hM6 : M ≤ 6) (hW24 : W ≤ 24) {Q : Option Value → px_H → Prop} : ∀ (m k : Nat), k + m = W → Q (some (.int (s_ckr W (zz_run (s_mckp M f) m k)))) ([], px_MH Z (va_up F 0 f)) → px_PW 2 pc_204 Q 18 [some (.ref 1000), some (.int (nI W)), some (.int (nI k))] [] ([], px_MH Z (va_up F 0 f))
  | m, k, hk, H => by
    refine px_PW.steps kt_204.2 3 rfl ?_
    refine px_PW.br (fun c0 => ?_) (fun c0 => ?_)
    · have c0 : (nI W) ≤ (nI k) := of_decide_eq_true c0
      have c0 : W ≤ k := (nI_leI (a := W) (b := k) (by omega) (by omega)).mp c0
      obtain rfl : m = 0 := by omega
      refine px_PW.steps kt_204.2 1 rfl ?_
      refine px_PW.ret kt_204.2 rfl rfl ?_
      have e : s_ckr W (zz_run (s_mckp M f) 0 k) = 0 := if_pos (by unfold zz_run; omega)
      rw [e] at H
      exact H
    · have c0 : ¬ ((nI W) ≤ (nI k)) := of_decide_eq_false c0
      have c0 : ¬ (W ≤ k) := fun q => c0 ((nI_leI (a := W) (b := k) (by omega) (by omega)).mpr q)
      obtain ⟨m2, rfl⟩ : ∃ m2, m = m2 + 1 := ⟨m - 1, by omega⟩
      refine px_PW.steps kt_204.2 2 rfl ?_
      refine px_PW.callV kt_204.2 rfl rfl rfl rfl (mm_isThing _) (by decide) (fun v h1 q => ?_)
      obtain ⟨rfl, rfl⟩ := q
      rw [show va_up F 0 f 0 10 = nI M from hM]
      refine px_PW.steps kt_204.2 1 rfl ?_
      refine px_PW.br (fun c1 => ?_) (fun c1 => ?_)
      · have c1 : ¬ (0 ≤ (nI k) ∧ (nI k) ≤ (nI M) - 1) := px_b1z (of_decide_eq_true c1)
        have c1 : ¬ (k < M) := fun q => c1 ⟨nI_pos' (by omega), px_pred q (by omega)⟩
        refine px_PW.steps kt_204.2 3 rfl ?_
        refine px_PW.ret kt_204.2 rfl rfl ?_
        rw [zz_run_n (show ¬ (s_mckp M f k = true) by unfold s_mckp; rw [decide_eq_false c1]; exact Bool.noConfusion)] at H
        have e : s_ckr W k = 1 + nI k := if_neg (by omega)
        rw [e] at H
        exact H
      · have c1 : 0 ≤ (nI k) ∧ (nI k) ≤ (nI M) - 1 := px_b1n (of_decide_eq_false c1)
        have c1 : k < M := by have h := (px_inS (x := nI M) rfl (by omega) c1).2; rw [nI_clamp (by omega)] at h; exact h
        refine px_PW.steps kt_204.2 5 rfl ?_
        refine px_PW.aldN kt_204.2 rfl rfl (n := 346 + k) (nI_add 346 k) (by omega) ?_
        refine px_PW.steps kt_204.2 3 rfl ?_
        refine px_PW.callV kt_204.2 rfl rfl rfl rfl (mm_its (n := k) (k := 2) rfl rfl (by omega) (by omega)) (by decide) (fun v h1 q => ?_)
        obtain ⟨rfl, rfl⟩ := q
        refine px_PW.steps kt_204.2 1 rfl ?_
        refine px_PW.br (fun c2 => ?_) (fun c2 => ?_)
        · have c2 : (f (346 + k)) = (f (12 + 4 * k + 2)) := of_decide_eq_true c2
          refine px_PW.steps kt_204.2 2 rfl ?_
          rw [zz_run_y (show s_mckp M f k = true by unfold s_mckp; rw [decide_eq_true c1, decide_eq_true c2]; rfl)] at H
          have g := m_ck_loop hM hM6 hW24 (Z := Z) (F := F) (Q := Q) m2 (k + 1) (by omega) H
          rw [nI_succ k] at g
          exact g
        · have c2 : ¬ ((f (346 + k)) = (f (12 + 4 * k + 2))) := of_decide_eq_false c2
          refine px_PW.steps kt_204.2 3 rfl ?_
          refine px_PW.ret kt_204.2 rfl rfl ?_
          rw [zz_run_n (show ¬ (s_mckp M f k = true) by unfold s_mckp; rw [decide_eq_false c2, Bool.and_false]; exact Bool.noConfusion)] at H
          have e : s_ckr W k = 1 + nI k := if_neg (by omega)
          rw [e] at H
          exact H
theorem kc_mcheck {Z : Nat → Int32} {F : Nat → Nat → Int32} {M W : Nat} (hM : F 0 10 = nI M) (hM6 : M ≤ 6) (hW : F 0 9 = nI W) (hW24 : W ≤ 24) : px_PM 3 204 [.ref 1000] ([], px_MH Z F) (fun r h' => r = some (.int (s_ckr W (zz_run (s_mckp M (upd (F 0) 9 0)) W 0))) ∧ h' = ([], px_MH Z (va_up F 0 (upd (F 0) 9 0)))) := by
  refine px_PM.start (nL := 3) (code := pc_204) rfl rfl ?_
  refine px_PW.steps kt_204.2 9 rfl ?_
  refine ms_0 kt_204.2 rfl (n := 9) rfl (by decide) ?_
  refine px_PW.steps kt_204.2 2 rfl ?_
  refine px_PW.lc (lv' := [some (.ref 1000), some (.int (nI W)), some (.int (nI 0))]) (by rw [← hW]; rfl) ?_
  refine m_ck_loop (f := upd (F 0) 9 0) hM hM6 hW24 W 0 (by omega) ?_
  exact ⟨rfl, rfl⟩
end
/-! part 41.mvoice -/
section
theorem px_tr30 {x : Int32} (h : 0 ≤ x ∧ x.toInt ≤ 30) (c : ¬ (30 ≤ x)) : x = nI x.toNatClampNeg ∧ x.toNatClampNeg < 30 ∧ 0 ≤ x + 1 ∧ (x + 1).toInt ≤ 30 := by
  obtain ⟨n, hn, rfl⟩ := nI_of (Int32.not_lt.mpr h.1)
  have h2 := h.2
  rw [nI_toInt hn] at h2
  have c2 : ¬ (30 ≤ n) := fun q => c ((nI_leI (a := 30) (by omega) (by omega)).mpr q)
  rw [nI_clamp hn, ← nI_succ, nI_toInt (by omega)]
  exact ⟨rfl, by omega, nI_pos' (by omega), by omega⟩
theorem mm_starts {Z : Nat → Int32} {F : Nat → Nat → Int32} (h6 : 0 ≤ Z 6 ∧ (Z 6).toInt ≤ 30) (b : Int32) : px_PM 1 184 [.ref 1000, .int b] ([], px_MH Z F) (fun r h' => r = none ∧ ∃ (t : Int32) (g : Nat → Int32), (0 ≤ t ∧ t.toInt ≤ 30) ∧ h' = ([], px_MH (upd Z 6 t) (va_up F 10 g))) := by
  refine px_PM.start (nL := 2) (code := pc_184) rfl rfl ?_
  refine px_PW.steps kt_184.2 4 rfl ?_
  refine px_PW.br (fun c0 => ?_) (fun c0 => ?_)
  · have c0 : 30 ≤ (Z 6) := of_decide_eq_true c0
    refine px_PW.ret kt_184.2 rfl rfl ?_
    exact ⟨rfl, Z 6, F 10, h6, by rw [zz_ui, px_up_id]⟩
  · have c0 : ¬ (30 ≤ (Z 6)) := of_decide_eq_false c0
    refine px_PW.steps kt_184.2 5 rfl ?_
    refine ms_10 kt_184.2 rfl (n := (Z 6).toNatClampNeg) (px_tr30 h6 c0).1 (px_tr30 h6 c0).2.1 ?_
    refine px_PW.steps kt_184.2 5 rfl ?_
    refine mo_6 kt_184.2 rfl ?_
    refine px_PW.ret kt_184.2 rfl rfl ?_
    exact ⟨rfl, Z 6 + 1, _, (px_tr30 h6 c0).2.2, rfl⟩
def r_drips (K : Nat) (sp x : Int32) : Int32 := match K with
  | 1 => x + sp - 4
  | 4 => (x + sp - 4) * 3
  | 6 => 9
  | _ => x + sp
def r_scores (K own : Nat) (sp m x : Int32) : Int32 := match K with
  | 2 => 0 - r_drips own sp x * 2
  | 5 => 0 - r_drips own sp (x + 1) * 2
  | 6 => r_drips own sp x * 2 + m
  | _ => r_drips own sp x * 2
def r_snaps (K own : Nat) (sp m x : Int32) : Int32 := match K with
  | 3 => r_scores own own sp m (x / 2) - m
  | 6 => r_scores own own sp m (x / 2) - m
  | 4 => (r_scores own own sp m x - m) ^^^ sp
  | _ => r_scores own own sp m x - m
def r_base (sp m x : Int32) : Int32 := if m - sp = 0 then 0 else if m - sp = -1 then -x else x / (m - sp)
def r_parts (K own : Nat) (sp m x : Int32) : Int32 := match K with
  | 1 => if m - sp = 0 then 0 else r_base sp m x + r_scores own own sp m 1
  | 4 => if m - sp = 0 then 0 else r_base sp m x + r_scores own own sp m 1
  | _ => r_base sp m x
theorem md_0 {Z : Nat → Int32} {F : Nat → Nat → Int32} (h6 : 0 ≤ Z 6 ∧ (Z 6).toInt ≤ 30) (x : Int32) : px_PM 2 188 [.ref 1000, .int 0, .int x] ([], px_MH Z F) (fun r h' => r = some (.int (r_drips 0 (Z 7) x)) ∧ ∃ (t : Int32) (g : Nat → Int32), (0 ≤ t ∧ t.toInt ≤ 30) ∧ h' = ([], px_MH (upd Z 6 t) (va_up F 10 g))) := by
  refine px_PM.start (nL := 3) (code := pc_188) rfl rfl ?_
  refine px_PW.steps kt_188.2 2 rfl ?_
  refine px_PW.at (pc' := 44) rfl ?_
  refine px_PW.steps kt_188.2 2 rfl ?_
  refine px_PW.callV kt_188.2 rfl rfl rfl rfl (mm_starts (Z := Z) (F := F) h6 _) (by decide) (fun v h1 q => ?_)
  obtain ⟨rfl, t1, g1, ht1, rfl⟩ := q
  refine px_PW.steps kt_188.2 4 rfl ?_
  refine px_PW.ret kt_188.2 rfl rfl ?_
  exact ⟨rfl, t1, g1, ht1, rfl⟩
theorem md_1 {Z : Nat → Int32} {F : Nat → Nat → Int32} (h6 : 0 ≤ Z 6 ∧ (Z 6).toInt ≤ 30) (x : Int32) : px_PM 3 188 [.ref 1000, .int 1, .int x] ([], px_MH Z F) (fun r h' => r = some (.int (r_drips 1 (Z 7) x)) ∧ ∃ (t : Int32) (g : Nat → Int32), (0 ≤ t ∧ t.toInt ≤ 30) ∧ h' = ([], px_MH (upd Z 6 t) (va_up F 10 g))) := by
  refine px_PM.start (nL := 3) (code := pc_188) rfl rfl ?_
  refine px_PW.steps kt_188.2 2 rfl ?_
  refine px_PW.at (pc' := 57) rfl ?_
  refine px_PW.steps kt_188.2 2 rfl ?_
  refine px_PW.callV kt_188.2 rfl rfl rfl rfl (mm_starts (Z := Z) (F := F) h6 _) (by decide) (fun v h1 q => ?_)
  obtain ⟨rfl, t1, g1, ht1, rfl⟩ := q
  refine px_PW.steps kt_188.2 2 rfl ?_
  refine px_PW.callS kt_188.2 rfl rfl rfl (mm_above _ _) (by decide) (fun v h1 q => ?_)
  obtain ⟨rfl, rfl⟩ := q
  refine px_PW.steps kt_188.2 1 rfl ?_
  refine px_PW.callV kt_188.2 rfl rfl rfl rfl (md_0 (Z := (upd Z 6 t1)) (F := (va_up F 10 g1)) ht1 _) (by decide) (fun v h1 q => ?_)
  obtain ⟨rfl, t2, g2, ht2, rfl⟩ := q
  refine px_PW.steps kt_188.2 2 rfl ?_
  refine px_PW.ret kt_188.2 rfl rfl ?_
  exact ⟨rfl, t2, g2, ht2, by rw [zz_uu, px_up_up]⟩
theorem md_2 {Z : Nat → Int32} {F : Nat → Nat → Int32} (h6 : 0 ≤ Z 6 ∧ (Z 6).toInt ≤ 30) (x : Int32) : px_PM 3 188 [.ref 1000, .int 2, .int x] ([], px_MH Z F) (fun r h' => r = some (.int (r_drips 2 (Z 7) x)) ∧ ∃ (t : Int32) (g : Nat → Int32), (0 ≤ t ∧ t.toInt ≤ 30) ∧ h' = ([], px_MH (upd Z 6 t) (va_up F 10 g))) := by
  refine px_PM.start (nL := 3) (code := pc_188) rfl rfl ?_
  refine px_PW.steps kt_188.2 2 rfl ?_
  refine px_PW.at (pc' := 102) rfl ?_
  refine px_PW.steps kt_188.2 2 rfl ?_
  refine px_PW.callS kt_188.2 rfl rfl rfl (mm_above _ _) (by decide) (fun v h1 q => ?_)
  obtain ⟨rfl, rfl⟩ := q
  refine px_PW.steps kt_188.2 1 rfl ?_
  refine px_PW.callV kt_188.2 rfl rfl rfl rfl (md_0 (Z := Z) (F := F) h6 _) (by decide) (fun v h1 q => ?_)
  obtain ⟨rfl, t1, g1, ht1, rfl⟩ := q
  refine px_PW.ret kt_188.2 rfl rfl ?_
  exact ⟨rfl, t1, g1, ht1, rfl⟩
theorem md_3 {Z : Nat → Int32} {F : Nat → Nat → Int32} (h6 : 0 ≤ Z 6 ∧ (Z 6).toInt ≤ 30) (x : Int32) : px_PM 3 188 [.ref 1000, .int 3, .int x] ([], px_MH Z F) (fun r h' => r = some (.int (r_drips 3 (Z 7) x)) ∧ ∃ (t : Int32) (g : Nat → Int32), (0 ≤ t ∧ t.toInt ≤ 30) ∧ h' = ([], px_MH (upd Z 6 t) (va_up F 10 g))) := by
  refine px_PM.start (nL := 3) (code := pc_188) rfl rfl ?_
  refine px_PW.steps kt_188.2 2 rfl ?_
  refine px_PW.at (pc' := 102) rfl ?_
  refine px_PW.steps kt_188.2 2 rfl ?_
  refine px_PW.callS kt_188.2 rfl rfl rfl (mm_above _ _) (by decide) (fun v h1 q => ?_)
  obtain ⟨rfl, rfl⟩ := q
  refine px_PW.steps kt_188.2 1 rfl ?_
  refine px_PW.callV kt_188.2 rfl rfl rfl rfl (md_0 (Z := Z) (F := F) h6 _) (by decide) (fun v h1 q => ?_)
  obtain ⟨rfl, t1, g1, ht1, rfl⟩ := q
  refine px_PW.ret kt_188.2 rfl rfl ?_
  exact ⟨rfl, t1, g1, ht1, rfl⟩
theorem md_4 {Z : Nat → Int32} {F : Nat → Nat → Int32} (h6 : 0 ≤ Z 6 ∧ (Z 6).toInt ≤ 30) (x : Int32) : px_PM 4 188 [.ref 1000, .int 4, .int x] ([], px_MH Z F) (fun r h' => r = some (.int (r_drips 4 (Z 7) x)) ∧ ∃ (t : Int32) (g : Nat → Int32), (0 ≤ t ∧ t.toInt ≤ 30) ∧ h' = ([], px_MH (upd Z 6 t) (va_up F 10 g))) := by
  refine px_PM.start (nL := 3) (code := pc_188) rfl rfl ?_
  refine px_PW.steps kt_188.2 2 rfl ?_
  refine px_PW.at (pc' := 75) rfl ?_
  refine px_PW.steps kt_188.2 2 rfl ?_
  refine px_PW.callV kt_188.2 rfl rfl rfl rfl (mm_starts (Z := Z) (F := F) h6 _) (by decide) (fun v h1 q => ?_)
  obtain ⟨rfl, t1, g1, ht1, rfl⟩ := q
  refine px_PW.steps kt_188.2 2 rfl ?_
  refine px_PW.callS kt_188.2 rfl rfl rfl (mm_above _ _) (by decide) (fun v h1 q => ?_)
  obtain ⟨rfl, rfl⟩ := q
  refine px_PW.steps kt_188.2 1 rfl ?_
  refine px_PW.callV kt_188.2 rfl rfl rfl rfl (md_1 (Z := (upd Z 6 t1)) (F := (va_up F 10 g1)) ht1 _) (by decide) (fun v h1 q => ?_)
  obtain ⟨rfl, t2, g2, ht2, rfl⟩ := q
  refine px_PW.steps kt_188.2 2 rfl ?_
  refine px_PW.ret kt_188.2 rfl rfl ?_
  exact ⟨rfl, t2, g2, ht2, by rw [zz_uu, px_up_up]⟩
theorem md_5 {Z : Nat → Int32} {F : Nat → Nat → Int32} (h6 : 0 ≤ Z 6 ∧ (Z 6).toInt ≤ 30) (x : Int32) : px_PM 4 188 [.ref 1000, .int 5, .int x] ([], px_MH Z F) (fun r h' => r = some (.int (r_drips 5 (Z 7) x)) ∧ ∃ (t : Int32) (g : Nat → Int32), (0 ≤ t ∧ t.toInt ≤ 30) ∧ h' = ([], px_MH (upd Z 6 t) (va_up F 10 g))) := by
  refine px_PM.start (nL := 3) (code := pc_188) rfl rfl ?_
  refine px_PW.steps kt_188.2 2 rfl ?_
  refine px_PW.at (pc' := 102) rfl ?_
  refine px_PW.steps kt_188.2 2 rfl ?_
  refine px_PW.callS kt_188.2 rfl rfl rfl (mm_above _ _) (by decide) (fun v h1 q => ?_)
  obtain ⟨rfl, rfl⟩ := q
  refine px_PW.steps kt_188.2 1 rfl ?_
  refine px_PW.callV kt_188.2 rfl rfl rfl rfl (md_2 (Z := Z) (F := F) h6 _) (by decide) (fun v h1 q => ?_)
  obtain ⟨rfl, t1, g1, ht1, rfl⟩ := q
  refine px_PW.ret kt_188.2 rfl rfl ?_
  exact ⟨rfl, t1, g1, ht1, rfl⟩
theorem md_6 {Z : Nat → Int32} {F : Nat → Nat → Int32} (h6 : 0 ≤ Z 6 ∧ (Z 6).toInt ≤ 30) (x : Int32) : px_PM 2 188 [.ref 1000, .int 6, .int x] ([], px_MH Z F) (fun r h' => r = some (.int (r_drips 6 (Z 7) x)) ∧ ∃ (t : Int32) (g : Nat → Int32), (0 ≤ t ∧ t.toInt ≤ 30) ∧ h' = ([], px_MH (upd Z 6 t) (va_up F 10 g))) := by
  refine px_PM.start (nL := 3) (code := pc_188) rfl rfl ?_
  refine px_PW.steps kt_188.2 2 rfl ?_
  refine px_PW.at (pc' := 93) rfl ?_
  refine px_PW.steps kt_188.2 2 rfl ?_
  refine px_PW.callV kt_188.2 rfl rfl rfl rfl (mm_starts (Z := Z) (F := F) h6 _) (by decide) (fun v h1 q => ?_)
  obtain ⟨rfl, t1, g1, ht1, rfl⟩ := q
  refine px_PW.steps kt_188.2 1 rfl ?_
  refine px_PW.ret kt_188.2 rfl rfl ?_
  exact ⟨rfl, t1, g1, ht1, rfl⟩
theorem mdE {Z : Nat → Int32} {F : Nat → Nat → Int32} {K : Nat} (hK : K < 7) {kk : Int32} (hk : kk = nI K) (h6 : 0 ≤ Z 6 ∧ (Z 6).toInt ≤ 30) (x : Int32) : px_PM 4 188 [.ref 1000, .int kk, .int x] ([], px_MH Z F) (fun r h' => r = some (.int (r_drips K (Z 7) x)) ∧ ∃ (t : Int32) (g : Nat → Int32), (0 ≤ t ∧ t.toInt ≤ 30) ∧ h' = ([], px_MH (upd Z 6 t) (va_up F 10 g))) := by
  subst hk
  match K, hK with
  | 0, _ => exact (md_0 h6 x).mono (by decide) (fun _ _ q => q)
  | 1, _ => exact (md_1 h6 x).mono (by decide) (fun _ _ q => q)
  | 2, _ => exact (md_2 h6 x).mono (by decide) (fun _ _ q => q)
  | 3, _ => exact (md_3 h6 x).mono (by decide) (fun _ _ q => q)
  | 4, _ => exact (md_4 h6 x).mono (by decide) (fun _ _ q => q)
  | 5, _ => exact (md_5 h6 x).mono (by decide) (fun _ _ q => q)
  | 6, _ => exact (md_6 h6 x).mono (by decide) (fun _ _ q => q)
theorem mm_kindNow {Z : Nat → Int32} {F : Nat → Nat → Int32} {n : Nat} (hn : n < 6) (h7 : Z 7 = nI n) : px_PM 2 186 [.ref 1000] ([], px_MH Z F) (fun r h' => r = some (.int (F 0 (12 + 4 * n + 0))) ∧ h' = ([], px_MH Z F)) := by
  refine px_PM.start (nL := 1) (code := pc_186) rfl rfl ?_
  refine px_PW.steps kt_186.2 4 rfl ?_
  refine px_PW.callV kt_186.2 rfl rfl rfl rfl (mm_its (n := n) (k := 0) h7 rfl hn (by decide)) (by decide) (fun v h1 q => ?_)
  obtain ⟨rfl, rfl⟩ := q
  refine px_PW.ret kt_186.2 rfl rfl ?_
  exact ⟨rfl, rfl⟩
theorem mm_mNow {Z : Nat → Int32} {F : Nat → Nat → Int32} {n : Nat} (hn : n < 6) (h7 : Z 7 = nI n) : px_PM 2 187 [.ref 1000] ([], px_MH Z F) (fun r h' => r = some (.int (F 0 (12 + 4 * n + 1))) ∧ h' = ([], px_MH Z F)) := by
  refine px_PM.start (nL := 1) (code := pc_187) rfl rfl ?_
  refine px_PW.steps kt_187.2 4 rfl ?_
  refine px_PW.callV kt_187.2 rfl rfl rfl rfl (mm_its (n := n) (k := 1) h7 rfl hn (by decide)) (by decide) (fun v h1 q => ?_)
  obtain ⟨rfl, rfl⟩ := q
  refine px_PW.ret kt_187.2 rfl rfl ?_
  exact ⟨rfl, rfl⟩
theorem me_0 {Z : Nat → Int32} {F : Nat → Nat → Int32} (h6 : 0 ≤ Z 6 ∧ (Z 6).toInt ≤ 30) {n own : Nat} (hn : n < 6) (h7 : Z 7 = nI n) (ho : F 0 (12 + 4 * n + 0) = nI own) (hown : own < 7) (x : Int32) : px_PM 5 189 [.ref 1000, .int 0, .int x] ([], px_MH Z F) (fun r h' => r = some (.int ((r_scores 0 own (Z 7) (F 0 (12 + 4 * n + 1)) x))) ∧ ∃ (t : Int32) (g : Nat → Int32), (0 ≤ t ∧ t.toInt ≤ 30) ∧ h' = ([], px_MH (upd Z 6 t) (va_up F 10 g))) := by
  refine px_PM.start (nL := 3) (code := pc_189) rfl rfl ?_
  refine px_PW.steps kt_189.2 2 rfl ?_
  refine px_PW.at (pc' := 44) rfl ?_
  refine px_PW.steps kt_189.2 2 rfl ?_
  refine px_PW.callV kt_189.2 rfl rfl rfl rfl (mm_starts (Z := Z) (F := F) h6 _) (by decide) (fun v h1 q => ?_)
  obtain ⟨rfl, t1, g1, ht1, rfl⟩ := q
  refine px_PW.steps kt_189.2 2 rfl ?_
  refine px_PW.callV kt_189.2 rfl rfl rfl rfl (mm_kindNow (Z := (upd Z 6 t1)) (F := (va_up F 10 g1)) hn h7) (by decide) (fun v h1 q => ?_)
  obtain ⟨rfl, rfl⟩ := q
  refine px_PW.steps kt_189.2 1 rfl ?_
  refine px_PW.callV kt_189.2 rfl rfl rfl rfl (mdE (Z := (upd Z 6 t1)) (F := (va_up F 10 g1)) hown (show _ = nI own from ho) ht1 _) (by decide) (fun v h1 q => ?_)
  obtain ⟨rfl, t2, g2, ht2, rfl⟩ := q
  refine px_PW.steps kt_189.2 2 rfl ?_
  refine px_PW.ret kt_189.2 rfl rfl ?_
  exact ⟨rfl, t2, g2, ht2, by rw [zz_uu, px_up_up]⟩
theorem me_1 {Z : Nat → Int32} {F : Nat → Nat → Int32} (h6 : 0 ≤ Z 6 ∧ (Z 6).toInt ≤ 30) {n own : Nat} (hn : n < 6) (h7 : Z 7 = nI n) (ho : F 0 (12 + 4 * n + 0) = nI own) (hown : own < 7) (x : Int32) : px_PM 6 189 [.ref 1000, .int 1, .int x] ([], px_MH Z F) (fun r h' => r = some (.int ((r_scores 1 own (Z 7) (F 0 (12 + 4 * n + 1)) x))) ∧ ∃ (t : Int32) (g : Nat → Int32), (0 ≤ t ∧ t.toInt ≤ 30) ∧ h' = ([], px_MH (upd Z 6 t) (va_up F 10 g))) := by
  refine px_PM.start (nL := 3) (code := pc_189) rfl rfl ?_
  refine px_PW.steps kt_189.2 2 rfl ?_
  refine px_PW.at (pc' := 120) rfl ?_
  refine px_PW.steps kt_189.2 2 rfl ?_
  refine px_PW.callS kt_189.2 rfl rfl rfl (mm_above _ _) (by decide) (fun v h1 q => ?_)
  obtain ⟨rfl, rfl⟩ := q
  refine px_PW.steps kt_189.2 1 rfl ?_
  refine px_PW.callV kt_189.2 rfl rfl rfl rfl (me_0 (Z := Z) (F := F) h6 hn h7 ho hown _) (by decide) (fun v h1 q => ?_)
  obtain ⟨rfl, t1, g1, ht1, rfl⟩ := q
  refine px_PW.ret kt_189.2 rfl rfl ?_
  exact ⟨rfl, t1, g1, ht1, rfl⟩
theorem me_2 {Z : Nat → Int32} {F : Nat → Nat → Int32} (h6 : 0 ≤ Z 6 ∧ (Z 6).toInt ≤ 30) {n own : Nat} (hn : n < 6) (h7 : Z 7 = nI n) (ho : F 0 (12 + 4 * n + 0) = nI own) (hown : own < 7) (x : Int32) : px_PM 6 189 [.ref 1000, .int 2, .int x] ([], px_MH Z F) (fun r h' => r = some (.int ((r_scores 2 own (Z 7) (F 0 (12 + 4 * n + 1)) x))) ∧ ∃ (t : Int32) (g : Nat → Int32), (0 ≤ t ∧ t.toInt ≤ 30) ∧ h' = ([], px_MH (upd Z 6 t) (va_up F 10 g))) := by
  refine px_PM.start (nL := 3) (code := pc_189) rfl rfl ?_
  refine px_PW.steps kt_189.2 2 rfl ?_
  refine px_PW.at (pc' := 62) rfl ?_
  refine px_PW.steps kt_189.2 2 rfl ?_
  refine px_PW.callV kt_189.2 rfl rfl rfl rfl (mm_starts (Z := Z) (F := F) h6 _) (by decide) (fun v h1 q => ?_)
  obtain ⟨rfl, t1, g1, ht1, rfl⟩ := q
  refine px_PW.steps kt_189.2 3 rfl ?_
  refine px_PW.callS kt_189.2 rfl rfl rfl (mm_above _ _) (by decide) (fun v h1 q => ?_)
  obtain ⟨rfl, rfl⟩ := q
  refine px_PW.steps kt_189.2 1 rfl ?_
  refine px_PW.callV kt_189.2 rfl rfl rfl rfl (me_0 (Z := (upd Z 6 t1)) (F := (va_up F 10 g1)) ht1 hn h7 ho hown _) (by decide) (fun v h1 q => ?_)
  obtain ⟨rfl, t2, g2, ht2, rfl⟩ := q
  refine px_PW.steps kt_189.2 1 rfl ?_
  refine px_PW.ret kt_189.2 rfl rfl ?_
  exact ⟨rfl, t2, g2, ht2, by rw [zz_uu, px_up_up]⟩
theorem me_3 {Z : Nat → Int32} {F : Nat → Nat → Int32} (h6 : 0 ≤ Z 6 ∧ (Z 6).toInt ≤ 30) {n own : Nat} (hn : n < 6) (h7 : Z 7 = nI n) (ho : F 0 (12 + 4 * n + 0) = nI own) (hown : own < 7) (x : Int32) : px_PM 6 189 [.ref 1000, .int 3, .int x] ([], px_MH Z F) (fun r h' => r = some (.int ((r_scores 3 own (Z 7) (F 0 (12 + 4 * n + 1)) x))) ∧ ∃ (t : Int32) (g : Nat → Int32), (0 ≤ t ∧ t.toInt ≤ 30) ∧ h' = ([], px_MH (upd Z 6 t) (va_up F 10 g))) := by
  refine px_PM.start (nL := 3) (code := pc_189) rfl rfl ?_
  refine px_PW.steps kt_189.2 2 rfl ?_
  refine px_PW.at (pc' := 120) rfl ?_
  refine px_PW.steps kt_189.2 2 rfl ?_
  refine px_PW.callS kt_189.2 rfl rfl rfl (mm_above _ _) (by decide) (fun v h1 q => ?_)
  obtain ⟨rfl, rfl⟩ := q
  refine px_PW.steps kt_189.2 1 rfl ?_
  refine px_PW.callV kt_189.2 rfl rfl rfl rfl (me_0 (Z := Z) (F := F) h6 hn h7 ho hown _) (by decide) (fun v h1 q => ?_)
  obtain ⟨rfl, t1, g1, ht1, rfl⟩ := q
  refine px_PW.ret kt_189.2 rfl rfl ?_
  exact ⟨rfl, t1, g1, ht1, rfl⟩
theorem me_4 {Z : Nat → Int32} {F : Nat → Nat → Int32} (h6 : 0 ≤ Z 6 ∧ (Z 6).toInt ≤ 30) {n own : Nat} (hn : n < 6) (h7 : Z 7 = nI n) (ho : F 0 (12 + 4 * n + 0) = nI own) (hown : own < 7) (x : Int32) : px_PM 7 189 [.ref 1000, .int 4, .int x] ([], px_MH Z F) (fun r h' => r = some (.int ((r_scores 4 own (Z 7) (F 0 (12 + 4 * n + 1)) x))) ∧ ∃ (t : Int32) (g : Nat → Int32), (0 ≤ t ∧ t.toInt ≤ 30) ∧ h' = ([], px_MH (upd Z 6 t) (va_up F 10 g))) := by
  refine px_PM.start (nL := 3) (code := pc_189) rfl rfl ?_
  refine px_PW.steps kt_189.2 2 rfl ?_
  refine px_PW.at (pc' := 120) rfl ?_
  refine px_PW.steps kt_189.2 2 rfl ?_
  refine px_PW.callS kt_189.2 rfl rfl rfl (mm_above _ _) (by decide) (fun v h1 q => ?_)
  obtain ⟨rfl, rfl⟩ := q
  refine px_PW.steps kt_189.2 1 rfl ?_
  refine px_PW.callV kt_189.2 rfl rfl rfl rfl (me_1 (Z := Z) (F := F) h6 hn h7 ho hown _) (by decide) (fun v h1 q => ?_)
  obtain ⟨rfl, t1, g1, ht1, rfl⟩ := q
  refine px_PW.ret kt_189.2 rfl rfl ?_
  exact ⟨rfl, t1, g1, ht1, rfl⟩
theorem me_5 {Z : Nat → Int32} {F : Nat → Nat → Int32} (h6 : 0 ≤ Z 6 ∧ (Z 6).toInt ≤ 30) {n own : Nat} (hn : n < 6) (h7 : Z 7 = nI n) (ho : F 0 (12 + 4 * n + 0) = nI own) (hown : own < 7) (x : Int32) : px_PM 7 189 [.ref 1000, .int 5, .int x] ([], px_MH Z F) (fun r h' => r = some (.int ((r_scores 5 own (Z 7) (F 0 (12 + 4 * n + 1)) x))) ∧ ∃ (t : Int32) (g : Nat → Int32), (0 ≤ t ∧ t.toInt ≤ 30) ∧ h' = ([], px_MH (upd Z 6 t) (va_up F 10 g))) := by
  refine px_PM.start (nL := 3) (code := pc_189) rfl rfl ?_
  refine px_PW.steps kt_189.2 2 rfl ?_
  refine px_PW.at (pc' := 80) rfl ?_
  refine px_PW.steps kt_189.2 2 rfl ?_
  refine px_PW.callV kt_189.2 rfl rfl rfl rfl (mm_starts (Z := Z) (F := F) h6 _) (by decide) (fun v h1 q => ?_)
  obtain ⟨rfl, t1, g1, ht1, rfl⟩ := q
  refine px_PW.steps kt_189.2 2 rfl ?_
  refine px_PW.callS kt_189.2 rfl rfl rfl (mm_above _ _) (by decide) (fun v h1 q => ?_)
  obtain ⟨rfl, rfl⟩ := q
  refine px_PW.steps kt_189.2 3 rfl ?_
  refine px_PW.callV kt_189.2 rfl rfl rfl rfl (me_2 (Z := (upd Z 6 t1)) (F := (va_up F 10 g1)) ht1 hn h7 ho hown _) (by decide) (fun v h1 q => ?_)
  obtain ⟨rfl, t2, g2, ht2, rfl⟩ := q
  refine px_PW.ret kt_189.2 rfl rfl ?_
  exact ⟨rfl, t2, g2, ht2, by rw [zz_uu, px_up_up]⟩
theorem me_6 {Z : Nat → Int32} {F : Nat → Nat → Int32} (h6 : 0 ≤ Z 6 ∧ (Z 6).toInt ≤ 30) {n own : Nat} (hn : n < 6) (h7 : Z 7 = nI n) (ho : F 0 (12 + 4 * n + 0) = nI own) (hown : own < 7) (x : Int32) : px_PM 7 189 [.ref 1000, .int 6, .int x] ([], px_MH Z F) (fun r h' => r = some (.int ((r_scores 6 own (Z 7) (F 0 (12 + 4 * n + 1)) x))) ∧ ∃ (t : Int32) (g : Nat → Int32), (0 ≤ t ∧ t.toInt ≤ 30) ∧ h' = ([], px_MH (upd Z 6 t) (va_up F 10 g))) := by
  refine px_PM.start (nL := 3) (code := pc_189) rfl rfl ?_
  refine px_PW.steps kt_189.2 2 rfl ?_
  refine px_PW.at (pc' := 98) rfl ?_
  refine px_PW.steps kt_189.2 2 rfl ?_
  refine px_PW.callV kt_189.2 rfl rfl rfl rfl (mm_starts (Z := Z) (F := F) h6 _) (by decide) (fun v h1 q => ?_)
  obtain ⟨rfl, t1, g1, ht1, rfl⟩ := q
  refine px_PW.steps kt_189.2 2 rfl ?_
  refine px_PW.callS kt_189.2 rfl rfl rfl (mm_above _ _) (by decide) (fun v h1 q => ?_)
  obtain ⟨rfl, rfl⟩ := q
  refine px_PW.steps kt_189.2 1 rfl ?_
  refine px_PW.callV kt_189.2 rfl rfl rfl rfl (me_3 (Z := (upd Z 6 t1)) (F := (va_up F 10 g1)) ht1 hn h7 ho hown _) (by decide) (fun v h1 q => ?_)
  obtain ⟨rfl, t2, g2, ht2, rfl⟩ := q
  refine px_PW.steps kt_189.2 1 rfl ?_
  refine px_PW.callV kt_189.2 rfl rfl rfl rfl (mm_mNow (Z := (upd (upd Z 6 t1) 6 t2)) (F := (va_up (va_up F 10 g1) 10 g2)) hn h7) (by decide) (fun v h1 q => ?_)
  obtain ⟨rfl, rfl⟩ := q
  refine px_PW.steps kt_189.2 1 rfl ?_
  refine px_PW.ret kt_189.2 rfl rfl ?_
  exact ⟨rfl, t2, g2, ht2, by rw [zz_uu, px_up_up]⟩
theorem meE {Z : Nat → Int32} {F : Nat → Nat → Int32} {K : Nat} (hK : K < 7) {kk : Int32} (hk : kk = nI K) (h6 : 0 ≤ Z 6 ∧ (Z 6).toInt ≤ 30) {n own : Nat} (hn : n < 6) (h7 : Z 7 = nI n) (ho : F 0 (12 + 4 * n + 0) = nI own) (hown : own < 7) (x : Int32) : px_PM 7 189 [.ref 1000, .int kk, .int x] ([], px_MH Z F) (fun r h' => r = some (.int ((r_scores K own (Z 7) (F 0 (12 + 4 * n + 1)) x))) ∧ ∃ (t : Int32) (g : Nat → Int32), (0 ≤ t ∧ t.toInt ≤ 30) ∧ h' = ([], px_MH (upd Z 6 t) (va_up F 10 g))) := by
  subst hk
  match K, hK with
  | 0, _ => exact (me_0 h6 hn h7 ho hown x).mono (by decide) (fun _ _ q => q)
  | 1, _ => exact (me_1 h6 hn h7 ho hown x).mono (by decide) (fun _ _ q => q)
  | 2, _ => exact (me_2 h6 hn h7 ho hown x).mono (by decide) (fun _ _ q => q)
  | 3, _ => exact (me_3 h6 hn h7 ho hown x).mono (by decide) (fun _ _ q => q)
  | 4, _ => exact (me_4 h6 hn h7 ho hown x).mono (by decide) (fun _ _ q => q)
  | 5, _ => exact (me_5 h6 hn h7 ho hown x).mono (by decide) (fun _ _ q => q)
  | 6, _ => exact (me_6 h6 hn h7 ho hown x).mono (by decide) (fun _ _ q => q)
theorem mf_0 {Z : Nat → Int32} {F : Nat → Nat → Int32} (h6 : 0 ≤ Z 6 ∧ (Z 6).toInt ≤ 30) {n own : Nat} (hn : n < 6) (h7 : Z 7 = nI n) (ho : F 0 (12 + 4 * n + 0) = nI own) (hown : own < 7) (x : Int32) : px_PM 8 190 [.ref 1000, .int 0, .int x] ([], px_MH Z F) (fun r h' => r = some (.int ((r_snaps 0 own (Z 7) (F 0 (12 + 4 * n + 1)) x))) ∧ ∃ (t : Int32) (g : Nat → Int32), (0 ≤ t ∧ t.toInt ≤ 30) ∧ h' = ([], px_MH (upd Z 6 t) (va_up F 10 g))) := by
  refine px_PM.start (nL := 3) (code := pc_190) rfl rfl ?_
  refine px_PW.steps kt_190.2 2 rfl ?_
  refine px_PW.at (pc' := 36) rfl ?_
  refine px_PW.steps kt_190.2 2 rfl ?_
  refine px_PW.callV kt_190.2 rfl rfl rfl rfl (mm_starts (Z := Z) (F := F) h6 _) (by decide) (fun v h1 q => ?_)
  obtain ⟨rfl, t1, g1, ht1, rfl⟩ := q
  refine px_PW.steps kt_190.2 2 rfl ?_
  refine px_PW.callV kt_190.2 rfl rfl rfl rfl (mm_kindNow (Z := (upd Z 6 t1)) (F := (va_up F 10 g1)) hn h7) (by decide) (fun v h1 q => ?_)
  obtain ⟨rfl, rfl⟩ := q
  refine px_PW.steps kt_190.2 1 rfl ?_
  refine px_PW.callV kt_190.2 rfl rfl rfl rfl (meE (Z := (upd Z 6 t1)) (F := (va_up F 10 g1)) hown (show _ = nI own from ho) ht1 hn h7 ho hown _) (by decide) (fun v h1 q => ?_)
  obtain ⟨rfl, t2, g2, ht2, rfl⟩ := q
  refine px_PW.steps kt_190.2 1 rfl ?_
  refine px_PW.callV kt_190.2 rfl rfl rfl rfl (mm_mNow (Z := (upd (upd Z 6 t1) 6 t2)) (F := (va_up (va_up F 10 g1) 10 g2)) hn h7) (by decide) (fun v h1 q => ?_)
  obtain ⟨rfl, rfl⟩ := q
  refine px_PW.steps kt_190.2 1 rfl ?_
  refine px_PW.ret kt_190.2 rfl rfl ?_
  exact ⟨rfl, t2, g2, ht2, by rw [zz_uu, px_up_up]⟩
theorem mf_1 {Z : Nat → Int32} {F : Nat → Nat → Int32} (h6 : 0 ≤ Z 6 ∧ (Z 6).toInt ≤ 30) {n own : Nat} (hn : n < 6) (h7 : Z 7 = nI n) (ho : F 0 (12 + 4 * n + 0) = nI own) (hown : own < 7) (x : Int32) : px_PM 9 190 [.ref 1000, .int 1, .int x] ([], px_MH Z F) (fun r h' => r = some (.int ((r_snaps 1 own (Z 7) (F 0 (12 + 4 * n + 1)) x))) ∧ ∃ (t : Int32) (g : Nat → Int32), (0 ≤ t ∧ t.toInt ≤ 30) ∧ h' = ([], px_MH (upd Z 6 t) (va_up F 10 g))) := by
  refine px_PM.start (nL := 3) (code := pc_190) rfl rfl ?_
  refine px_PW.steps kt_190.2 2 rfl ?_
  refine px_PW.at (pc' := 96) rfl ?_
  refine px_PW.steps kt_190.2 2 rfl ?_
  refine px_PW.callS kt_190.2 rfl rfl rfl (mm_above _ _) (by decide) (fun v h1 q => ?_)
  obtain ⟨rfl, rfl⟩ := q
  refine px_PW.steps kt_190.2 1 rfl ?_
  refine px_PW.callV kt_190.2 rfl rfl rfl rfl (mf_0 (Z := Z) (F := F) h6 hn h7 ho hown _) (by decide) (fun v h1 q => ?_)
  obtain ⟨rfl, t1, g1, ht1, rfl⟩ := q
  refine px_PW.ret kt_190.2 rfl rfl ?_
  exact ⟨rfl, t1, g1, ht1, rfl⟩
theorem mf_2 {Z : Nat → Int32} {F : Nat → Nat → Int32} (h6 : 0 ≤ Z 6 ∧ (Z 6).toInt ≤ 30) {n own : Nat} (hn : n < 6) (h7 : Z 7 = nI n) (ho : F 0 (12 + 4 * n + 0) = nI own) (hown : own < 7) (x : Int32) : px_PM 9 190 [.ref 1000, .int 2, .int x] ([], px_MH Z F) (fun r h' => r = some (.int ((r_snaps 2 own (Z 7) (F 0 (12 + 4 * n + 1)) x))) ∧ ∃ (t : Int32) (g : Nat → Int32), (0 ≤ t ∧ t.toInt ≤ 30) ∧ h' = ([], px_MH (upd Z 6 t) (va_up F 10 g))) := by
  refine px_PM.start (nL := 3) (code := pc_190) rfl rfl ?_
  refine px_PW.steps kt_190.2 2 rfl ?_
  refine px_PW.at (pc' := 96) rfl ?_
  refine px_PW.steps kt_190.2 2 rfl ?_
  refine px_PW.callS kt_190.2 rfl rfl rfl (mm_above _ _) (by decide) (fun v h1 q => ?_)
  obtain ⟨rfl, rfl⟩ := q
  refine px_PW.steps kt_190.2 1 rfl ?_
  refine px_PW.callV kt_190.2 rfl rfl rfl rfl (mf_0 (Z := Z) (F := F) h6 hn h7 ho hown _) (by decide) (fun v h1 q => ?_)
  obtain ⟨rfl, t1, g1, ht1, rfl⟩ := q
  refine px_PW.ret kt_190.2 rfl rfl ?_
  exact ⟨rfl, t1, g1, ht1, rfl⟩
theorem mf_3 {Z : Nat → Int32} {F : Nat → Nat → Int32} (h6 : 0 ≤ Z 6 ∧ (Z 6).toInt ≤ 30) {n own : Nat} (hn : n < 6) (h7 : Z 7 = nI n) (ho : F 0 (12 + 4 * n + 0) = nI own) (hown : own < 7) (x : Int32) : px_PM 9 190 [.ref 1000, .int 3, .int x] ([], px_MH Z F) (fun r h' => r = some (.int ((r_snaps 3 own (Z 7) (F 0 (12 + 4 * n + 1)) x))) ∧ ∃ (t : Int32) (g : Nat → Int32), (0 ≤ t ∧ t.toInt ≤ 30) ∧ h' = ([], px_MH (upd Z 6 t) (va_up F 10 g))) := by
  refine px_PM.start (nL := 3) (code := pc_190) rfl rfl ?_
  refine px_PW.steps kt_190.2 2 rfl ?_
  refine px_PW.at (pc' := 57) rfl ?_
  refine px_PW.steps kt_190.2 2 rfl ?_
  refine px_PW.callV kt_190.2 rfl rfl rfl rfl (mm_starts (Z := Z) (F := F) h6 _) (by decide) (fun v h1 q => ?_)
  obtain ⟨rfl, t1, g1, ht1, rfl⟩ := q
  refine px_PW.steps kt_190.2 2 rfl ?_
  refine px_PW.callS kt_190.2 rfl rfl rfl (mm_above _ _) (by decide) (fun v h1 q => ?_)
  obtain ⟨rfl, rfl⟩ := q
  refine px_PW.steps kt_190.2 3 rfl ?_
  refine px_PW.callV kt_190.2 rfl rfl rfl rfl (mf_0 (Z := (upd Z 6 t1)) (F := (va_up F 10 g1)) ht1 hn h7 ho hown _) (by decide) (fun v h1 q => ?_)
  obtain ⟨rfl, t2, g2, ht2, rfl⟩ := q
  refine px_PW.ret kt_190.2 rfl rfl ?_
  exact ⟨rfl, t2, g2, ht2, by rw [zz_uu, px_up_up]⟩
theorem mf_4 {Z : Nat → Int32} {F : Nat → Nat → Int32} (h6 : 0 ≤ Z 6 ∧ (Z 6).toInt ≤ 30) {n own : Nat} (hn : n < 6) (h7 : Z 7 = nI n) (ho : F 0 (12 + 4 * n + 0) = nI own) (hown : own < 7) (x : Int32) : px_PM 10 190 [.ref 1000, .int 4, .int x] ([], px_MH Z F) (fun r h' => r = some (.int ((r_snaps 4 own (Z 7) (F 0 (12 + 4 * n + 1)) x))) ∧ ∃ (t : Int32) (g : Nat → Int32), (0 ≤ t ∧ t.toInt ≤ 30) ∧ h' = ([], px_MH (upd Z 6 t) (va_up F 10 g))) := by
  refine px_PM.start (nL := 3) (code := pc_190) rfl rfl ?_
  refine px_PW.steps kt_190.2 2 rfl ?_
  refine px_PW.at (pc' := 75) rfl ?_
  refine px_PW.steps kt_190.2 2 rfl ?_
  refine px_PW.callV kt_190.2 rfl rfl rfl rfl (mm_starts (Z := Z) (F := F) h6 _) (by decide) (fun v h1 q => ?_)
  obtain ⟨rfl, t1, g1, ht1, rfl⟩ := q
  refine px_PW.steps kt_190.2 2 rfl ?_
  refine px_PW.callS kt_190.2 rfl rfl rfl (mm_above _ _) (by decide) (fun v h1 q => ?_)
  obtain ⟨rfl, rfl⟩ := q
  refine px_PW.steps kt_190.2 1 rfl ?_
  refine px_PW.callV kt_190.2 rfl rfl rfl rfl (mf_1 (Z := (upd Z 6 t1)) (F := (va_up F 10 g1)) ht1 hn h7 ho hown _) (by decide) (fun v h1 q => ?_)
  obtain ⟨rfl, t2, g2, ht2, rfl⟩ := q
  refine px_PW.steps kt_190.2 3 rfl ?_
  refine px_PW.ret kt_190.2 rfl rfl ?_
  exact ⟨rfl, t2, g2, ht2, by rw [zz_uu, px_up_up]⟩
theorem mf_5 {Z : Nat → Int32} {F : Nat → Nat → Int32} (h6 : 0 ≤ Z 6 ∧ (Z 6).toInt ≤ 30) {n own : Nat} (hn : n < 6) (h7 : Z 7 = nI n) (ho : F 0 (12 + 4 * n + 0) = nI own) (hown : own < 7) (x : Int32) : px_PM 10 190 [.ref 1000, .int 5, .int x] ([], px_MH Z F) (fun r h' => r = some (.int ((r_snaps 5 own (Z 7) (F 0 (12 + 4 * n + 1)) x))) ∧ ∃ (t : Int32) (g : Nat → Int32), (0 ≤ t ∧ t.toInt ≤ 30) ∧ h' = ([], px_MH (upd Z 6 t) (va_up F 10 g))) := by
  refine px_PM.start (nL := 3) (code := pc_190) rfl rfl ?_
  refine px_PW.steps kt_190.2 2 rfl ?_
  refine px_PW.at (pc' := 96) rfl ?_
  refine px_PW.steps kt_190.2 2 rfl ?_
  refine px_PW.callS kt_190.2 rfl rfl rfl (mm_above _ _) (by decide) (fun v h1 q => ?_)
  obtain ⟨rfl, rfl⟩ := q
  refine px_PW.steps kt_190.2 1 rfl ?_
  refine px_PW.callV kt_190.2 rfl rfl rfl rfl (mf_2 (Z := Z) (F := F) h6 hn h7 ho hown _) (by decide) (fun v h1 q => ?_)
  obtain ⟨rfl, t1, g1, ht1, rfl⟩ := q
  refine px_PW.ret kt_190.2 rfl rfl ?_
  exact ⟨rfl, t1, g1, ht1, rfl⟩
theorem mf_6 {Z : Nat → Int32} {F : Nat → Nat → Int32} (h6 : 0 ≤ Z 6 ∧ (Z 6).toInt ≤ 30) {n own : Nat} (hn : n < 6) (h7 : Z 7 = nI n) (ho : F 0 (12 + 4 * n + 0) = nI own) (hown : own < 7) (x : Int32) : px_PM 10 190 [.ref 1000, .int 6, .int x] ([], px_MH Z F) (fun r h' => r = some (.int ((r_snaps 6 own (Z 7) (F 0 (12 + 4 * n + 1)) x))) ∧ ∃ (t : Int32) (g : Nat → Int32), (0 ≤ t ∧ t.toInt ≤ 30) ∧ h' = ([], px_MH (upd Z 6 t) (va_up F 10 g))) := by
  refine px_PM.start (nL := 3) (code := pc_190) rfl rfl ?_
  refine px_PW.steps kt_190.2 2 rfl ?_
  refine px_PW.at (pc' := 96) rfl ?_
  refine px_PW.steps kt_190.2 2 rfl ?_
  refine px_PW.callS kt_190.2 rfl rfl rfl (mm_above _ _) (by decide) (fun v h1 q => ?_)
  obtain ⟨rfl, rfl⟩ := q
  refine px_PW.steps kt_190.2 1 rfl ?_
  refine px_PW.callV kt_190.2 rfl rfl rfl rfl (mf_3 (Z := Z) (F := F) h6 hn h7 ho hown _) (by decide) (fun v h1 q => ?_)
  obtain ⟨rfl, t1, g1, ht1, rfl⟩ := q
  refine px_PW.ret kt_190.2 rfl rfl ?_
  exact ⟨rfl, t1, g1, ht1, rfl⟩
theorem mfE {Z : Nat → Int32} {F : Nat → Nat → Int32} {K : Nat} (hK : K < 7) {kk : Int32} (hk : kk = nI K) (h6 : 0 ≤ Z 6 ∧ (Z 6).toInt ≤ 30) {n own : Nat} (hn : n < 6) (h7 : Z 7 = nI n) (ho : F 0 (12 + 4 * n + 0) = nI own) (hown : own < 7) (x : Int32) : px_PM 10 190 [.ref 1000, .int kk, .int x] ([], px_MH Z F) (fun r h' => r = some (.int ((r_snaps K own (Z 7) (F 0 (12 + 4 * n + 1)) x))) ∧ ∃ (t : Int32) (g : Nat → Int32), (0 ≤ t ∧ t.toInt ≤ 30) ∧ h' = ([], px_MH (upd Z 6 t) (va_up F 10 g))) := by
  subst hk
  match K, hK with
  | 0, _ => exact (mf_0 h6 hn h7 ho hown x).mono (by decide) (fun _ _ q => q)
  | 1, _ => exact (mf_1 h6 hn h7 ho hown x).mono (by decide) (fun _ _ q => q)
  | 2, _ => exact (mf_2 h6 hn h7 ho hown x).mono (by decide) (fun _ _ q => q)
  | 3, _ => exact (mf_3 h6 hn h7 ho hown x).mono (by decide) (fun _ _ q => q)
  | 4, _ => exact (mf_4 h6 hn h7 ho hown x).mono (by decide) (fun _ _ q => q)
  | 5, _ => exact (mf_5 h6 hn h7 ho hown x).mono (by decide) (fun _ _ q => q)
  | 6, _ => exact (mf_6 h6 hn h7 ho hown x).mono (by decide) (fun _ _ q => q)
theorem zz_ux (f : Nat → Int32) {a b : Nat} (h : a ≠ b) (x y : Int32) : upd (upd f a x) b y = upd (upd f b y) a x := by
  funext j
  unfold upd
  by_cases h1 : j = a
  · subst h1; rw [if_pos rfl, if_neg h, if_pos rfl]
  · rw [if_neg h1, if_neg h1]
theorem mg_0 {Z : Nat → Int32} {F : Nat → Nat → Int32} (h6 : 0 ≤ Z 6 ∧ (Z 6).toInt ≤ 30) {n own : Nat} (hn : n < 6) (h7 : Z 7 = nI n) (ho : F 0 (12 + 4 * n + 0) = nI own) (hown : own < 7) (x : Int32) : px_PM 3 191 [.ref 1000, .int 0, .int x] ([], px_MH Z F) (fun r h' => r = some (.int (r_parts 0 own (Z 7) (F 0 (12 + 4 * n + 1)) x)) ∧ ∃ (t p : Int32) (g : Nat → Int32), (0 ≤ t ∧ t.toInt ≤ 30) ∧ p = (if F 0 (12 + 4 * n + 1) - Z 7 = 0 then 1 else 0) ∧ h' = ([], px_MH (upd (upd Z 6 t) 8 p) (va_up F 10 g))) := by
  refine px_PM.start (nL := 5) (code := pc_191) rfl rfl ?_
  refine px_PW.steps kt_191.2 2 rfl ?_
  refine px_PW.at (pc' := 28) rfl ?_
  refine px_PW.steps kt_191.2 2 rfl ?_
  refine px_PW.callV kt_191.2 rfl rfl rfl rfl (mm_starts (Z := Z) (F := F) h6 _) (by decide) (fun v h1 q => ?_)
  obtain ⟨rfl, t1, g1, ht1, rfl⟩ := q
  refine px_PW.steps kt_191.2 1 rfl ?_
  refine px_PW.callV kt_191.2 rfl rfl rfl rfl (mm_mNow (Z := (upd Z 6 t1)) (F := (va_up F 10 g1)) hn h7) (by decide) (fun v h1 q => ?_)
  obtain ⟨rfl, rfl⟩ := q
  refine px_PW.steps kt_191.2 7 rfl ?_
  refine px_PW.br (fun c0 => ?_) (fun c0 => ?_)
  · have c0 : ¬ (((F 0 (12 + 4 * n + 1)) - (Z 7)) = 0) := of_decide_eq_false (px_nt c0)
    refine px_PW.steps kt_191.2 1 rfl ?_
    refine mo_8 kt_191.2 (by rfl) rfl ?_
    refine px_PW.steps kt_191.2 2 rfl ?_
    refine px_PW.br (fun c1 => ?_) (fun c1 => ?_)
    · have c1 : ¬ (((F 0 (12 + 4 * n + 1)) - (Z 7)) = 0) := of_decide_eq_false (px_nt c1)
      refine px_PW.steps kt_191.2 3 rfl ?_
      refine px_PW.br (fun c2 => ?_) (fun c2 => ?_)
      · have c2 : ¬ (((F 0 (12 + 4 * n + 1)) - (Z 7)) = (-1)) := of_decide_eq_false (px_nt c2)
        refine px_PW.steps kt_191.2 2 rfl ?_
        refine px_PW.bin0 kt_191.2 rfl c0 ?_
        refine px_PW.ret kt_191.2 rfl rfl ?_
        exact ⟨congrArg (fun z => some (Value.int z)) (show r_base (Z 7) (F 0 (12 + 4 * n + 1)) x = (x / ((F 0 (12 + 4 * n + 1)) - (Z 7))) from (if_neg c0).trans (if_neg c2)).symm, t1, _, g1, ht1, (if_neg c0).symm, rfl⟩
      · have c2 : ((F 0 (12 + 4 * n + 1)) - (Z 7)) = (-1) := of_decide_eq_true (px_nf c2)
        refine px_PW.steps kt_191.2 3 rfl ?_
        refine px_PW.ret kt_191.2 rfl rfl ?_
        exact ⟨congrArg (fun z => some (Value.int z)) (show r_base (Z 7) (F 0 (12 + 4 * n + 1)) x = (-x) from (if_neg c0).trans (if_pos c2)).symm, t1, _, g1, ht1, (if_neg c0).symm, rfl⟩
    · have c1 : ((F 0 (12 + 4 * n + 1)) - (Z 7)) = 0 := of_decide_eq_true (px_nf c1)
      exact absurd c1 c0
  · have c0 : ((F 0 (12 + 4 * n + 1)) - (Z 7)) = 0 := of_decide_eq_true (px_nf c0)
    refine px_PW.steps kt_191.2 2 rfl ?_
    refine mo_8 kt_191.2 (by rfl) rfl ?_
    refine px_PW.steps kt_191.2 2 rfl ?_
    refine px_PW.br (fun c3 => ?_) (fun c3 => ?_)
    · have c3 : ¬ (((F 0 (12 + 4 * n + 1)) - (Z 7)) = 0) := of_decide_eq_false (px_nt c3)
      exact absurd c0 c3
    · have c3 : ((F 0 (12 + 4 * n + 1)) - (Z 7)) = 0 := of_decide_eq_true (px_nf c3)
      refine px_PW.steps kt_191.2 2 rfl ?_
      refine px_PW.ret kt_191.2 rfl rfl ?_
      exact ⟨congrArg (fun z => some (Value.int z)) (show r_base (Z 7) (F 0 (12 + 4 * n + 1)) x = 0 from (if_pos c0)).symm, t1, _, g1, ht1, (if_pos c0).symm, rfl⟩
theorem mg_1 {Z : Nat → Int32} {F : Nat → Nat → Int32} (h6 : 0 ≤ Z 6 ∧ (Z 6).toInt ≤ 30) {n own : Nat} (hn : n < 6) (h7 : Z 7 = nI n) (ho : F 0 (12 + 4 * n + 0) = nI own) (hown : own < 7) (x : Int32) : px_PM 8 191 [.ref 1000, .int 1, .int x] ([], px_MH Z F) (fun r h' => r = some (.int (r_parts 1 own (Z 7) (F 0 (12 + 4 * n + 1)) x)) ∧ ∃ (t p : Int32) (g : Nat → Int32), (0 ≤ t ∧ t.toInt ≤ 30) ∧ p = (if F 0 (12 + 4 * n + 1) - Z 7 = 0 then 1 else 0) ∧ h' = ([], px_MH (upd (upd Z 6 t) 8 p) (va_up F 10 g))) := by
  refine px_PM.start (nL := 5) (code := pc_191) rfl rfl ?_
  refine px_PW.steps kt_191.2 2 rfl ?_
  refine px_PW.at (pc' := 79) rfl ?_
  refine px_PW.steps kt_191.2 2 rfl ?_
  refine px_PW.callV kt_191.2 rfl rfl rfl rfl (mm_starts (Z := Z) (F := F) h6 _) (by decide) (fun v h1 q => ?_)
  obtain ⟨rfl, t1, g1, ht1, rfl⟩ := q
  refine px_PW.steps kt_191.2 2 rfl ?_
  refine px_PW.callS kt_191.2 rfl rfl rfl (mm_above _ _) (by decide) (fun v h1 q => ?_)
  obtain ⟨rfl, rfl⟩ := q
  refine px_PW.steps kt_191.2 1 rfl ?_
  refine px_PW.callV kt_191.2 rfl rfl rfl rfl (mg_0 (Z := (upd Z 6 t1)) (F := (va_up F 10 g1)) ht1 hn h7 ho hown _) (by decide) (fun v h1 q => ?_)
  obtain ⟨rfl, t2, p2, g2, ht2, hp2, rfl⟩ := q
  refine px_PW.steps kt_191.2 4 rfl ?_
  refine px_PW.br (fun c0 => ?_) (fun c0 => ?_)
  · have c0 : p2 = 0 := of_decide_eq_true c0
    refine px_PW.steps kt_191.2 3 rfl ?_
    refine px_PW.callV kt_191.2 rfl rfl rfl rfl (mm_kindNow (Z := (upd (upd (upd Z 6 t1) 6 t2) 8 p2)) (F := (va_up (va_up F 10 g1) 10 g2)) hn h7) (by decide) (fun v h1 q => ?_)
    obtain ⟨rfl, rfl⟩ := q
    refine px_PW.steps kt_191.2 1 rfl ?_
    refine px_PW.callV kt_191.2 rfl rfl rfl rfl (meE (Z := (upd (upd (upd Z 6 t1) 6 t2) 8 p2)) (F := (va_up (va_up F 10 g1) 10 g2)) hown (show _ = nI own from ho) ht2 hn h7 ho hown _) (by decide) (fun v h1 q => ?_)
    obtain ⟨rfl, t3, g3, ht3, rfl⟩ := q
    refine px_PW.steps kt_191.2 1 rfl ?_
    refine px_PW.ret kt_191.2 rfl rfl ?_
    have hp2 : p2 = if (F 0 (12 + 4 * n + 1)) - Z 7 = 0 then 1 else 0 := hp2
    have hq : ¬ ((F 0 (12 + 4 * n + 1)) - Z 7 = 0) := fun q => by rw [if_pos q] at hp2; rw [hp2] at c0; exact absurd c0 (by decide)
    exact ⟨congrArg (fun z => some (Value.int z)) (show r_parts 1 own (Z 7) (F 0 (12 + 4 * n + 1)) x = _ from if_neg hq).symm, t3, p2, g3, ht3, hp2, by rw [zz_ux (upd (upd Z 6 t1) 6 t2) (show 8 ≠ 6 by decide), zz_uu, zz_uu, px_up_up, px_up_up]⟩
  · have c0 : ¬ (p2 = 0) := of_decide_eq_false c0
    refine px_PW.steps kt_191.2 2 rfl ?_
    refine px_PW.ret kt_191.2 rfl rfl ?_
    have hp2 : p2 = if (F 0 (12 + 4 * n + 1)) - Z 7 = 0 then 1 else 0 := hp2
    have hq : (F 0 (12 + 4 * n + 1)) - Z 7 = 0 := Decidable.byContradiction (fun q => c0 (by rw [hp2]; exact if_neg q))
    exact ⟨congrArg (fun z => some (Value.int z)) (show r_parts 1 own (Z 7) (F 0 (12 + 4 * n + 1)) x = _ from if_pos hq).symm, t2, p2, g2, ht2, hp2, by rw [zz_uu, px_up_up]⟩
theorem mg_2 {Z : Nat → Int32} {F : Nat → Nat → Int32} (h6 : 0 ≤ Z 6 ∧ (Z 6).toInt ≤ 30) {n own : Nat} (hn : n < 6) (h7 : Z 7 = nI n) (ho : F 0 (12 + 4 * n + 0) = nI own) (hown : own < 7) (x : Int32) : px_PM 4 191 [.ref 1000, .int 2, .int x] ([], px_MH Z F) (fun r h' => r = some (.int (r_parts 2 own (Z 7) (F 0 (12 + 4 * n + 1)) x)) ∧ ∃ (t p : Int32) (g : Nat → Int32), (0 ≤ t ∧ t.toInt ≤ 30) ∧ p = (if F 0 (12 + 4 * n + 1) - Z 7 = 0 then 1 else 0) ∧ h' = ([], px_MH (upd (upd Z 6 t) 8 p) (va_up F 10 g))) := by
  refine px_PM.start (nL := 5) (code := pc_191) rfl rfl ?_
  refine px_PW.steps kt_191.2 2 rfl ?_
  refine px_PW.at (pc' := 120) rfl ?_
  refine px_PW.steps kt_191.2 2 rfl ?_
  refine px_PW.callS kt_191.2 rfl rfl rfl (mm_above _ _) (by decide) (fun v h1 q => ?_)
  obtain ⟨rfl, rfl⟩ := q
  refine px_PW.steps kt_191.2 1 rfl ?_
  refine px_PW.callV kt_191.2 rfl rfl rfl rfl (mg_0 (Z := Z) (F := F) h6 hn h7 ho hown _) (by decide) (fun v h1 q => ?_)
  obtain ⟨rfl, t1, p1, g1, ht1, hp1, rfl⟩ := q
  refine px_PW.ret kt_191.2 rfl rfl ?_
  exact ⟨rfl, t1, p1, g1, ht1, hp1, rfl⟩
theorem mg_3 {Z : Nat → Int32} {F : Nat → Nat → Int32} (h6 : 0 ≤ Z 6 ∧ (Z 6).toInt ≤ 30) {n own : Nat} (hn : n < 6) (h7 : Z 7 = nI n) (ho : F 0 (12 + 4 * n + 0) = nI own) (hown : own < 7) (x : Int32) : px_PM 4 191 [.ref 1000, .int 3, .int x] ([], px_MH Z F) (fun r h' => r = some (.int (r_parts 3 own (Z 7) (F 0 (12 + 4 * n + 1)) x)) ∧ ∃ (t p : Int32) (g : Nat → Int32), (0 ≤ t ∧ t.toInt ≤ 30) ∧ p = (if F 0 (12 + 4 * n + 1) - Z 7 = 0 then 1 else 0) ∧ h' = ([], px_MH (upd (upd Z 6 t) 8 p) (va_up F 10 g))) := by
  refine px_PM.start (nL := 5) (code := pc_191) rfl rfl ?_
  refine px_PW.steps kt_191.2 2 rfl ?_
  refine px_PW.at (pc' := 120) rfl ?_
  refine px_PW.steps kt_191.2 2 rfl ?_
  refine px_PW.callS kt_191.2 rfl rfl rfl (mm_above _ _) (by decide) (fun v h1 q => ?_)
  obtain ⟨rfl, rfl⟩ := q
  refine px_PW.steps kt_191.2 1 rfl ?_
  refine px_PW.callV kt_191.2 rfl rfl rfl rfl (mg_0 (Z := Z) (F := F) h6 hn h7 ho hown _) (by decide) (fun v h1 q => ?_)
  obtain ⟨rfl, t1, p1, g1, ht1, hp1, rfl⟩ := q
  refine px_PW.ret kt_191.2 rfl rfl ?_
  exact ⟨rfl, t1, p1, g1, ht1, hp1, rfl⟩
theorem mg_4 {Z : Nat → Int32} {F : Nat → Nat → Int32} (h6 : 0 ≤ Z 6 ∧ (Z 6).toInt ≤ 30) {n own : Nat} (hn : n < 6) (h7 : Z 7 = nI n) (ho : F 0 (12 + 4 * n + 0) = nI own) (hown : own < 7) (x : Int32) : px_PM 9 191 [.ref 1000, .int 4, .int x] ([], px_MH Z F) (fun r h' => r = some (.int (r_parts 4 own (Z 7) (F 0 (12 + 4 * n + 1)) x)) ∧ ∃ (t p : Int32) (g : Nat → Int32), (0 ≤ t ∧ t.toInt ≤ 30) ∧ p = (if F 0 (12 + 4 * n + 1) - Z 7 = 0 then 1 else 0) ∧ h' = ([], px_MH (upd (upd Z 6 t) 8 p) (va_up F 10 g))) := by
  refine px_PM.start (nL := 5) (code := pc_191) rfl rfl ?_
  refine px_PW.steps kt_191.2 2 rfl ?_
  refine px_PW.at (pc' := 120) rfl ?_
  refine px_PW.steps kt_191.2 2 rfl ?_
  refine px_PW.callS kt_191.2 rfl rfl rfl (mm_above _ _) (by decide) (fun v h1 q => ?_)
  obtain ⟨rfl, rfl⟩ := q
  refine px_PW.steps kt_191.2 1 rfl ?_
  refine px_PW.callV kt_191.2 rfl rfl rfl rfl (mg_1 (Z := Z) (F := F) h6 hn h7 ho hown _) (by decide) (fun v h1 q => ?_)
  obtain ⟨rfl, t1, p1, g1, ht1, hp1, rfl⟩ := q
  refine px_PW.ret kt_191.2 rfl rfl ?_
  exact ⟨rfl, t1, p1, g1, ht1, hp1, rfl⟩
theorem mg_5 {Z : Nat → Int32} {F : Nat → Nat → Int32} (h6 : 0 ≤ Z 6 ∧ (Z 6).toInt ≤ 30) {n own : Nat} (hn : n < 6) (h7 : Z 7 = nI n) (ho : F 0 (12 + 4 * n + 0) = nI own) (hown : own < 7) (x : Int32) : px_PM 5 191 [.ref 1000, .int 5, .int x] ([], px_MH Z F) (fun r h' => r = some (.int (r_parts 5 own (Z 7) (F 0 (12 + 4 * n + 1)) x)) ∧ ∃ (t p : Int32) (g : Nat → Int32), (0 ≤ t ∧ t.toInt ≤ 30) ∧ p = (if F 0 (12 + 4 * n + 1) - Z 7 = 0 then 1 else 0) ∧ h' = ([], px_MH (upd (upd Z 6 t) 8 p) (va_up F 10 g))) := by
  refine px_PM.start (nL := 5) (code := pc_191) rfl rfl ?_
  refine px_PW.steps kt_191.2 2 rfl ?_
  refine px_PW.at (pc' := 120) rfl ?_
  refine px_PW.steps kt_191.2 2 rfl ?_
  refine px_PW.callS kt_191.2 rfl rfl rfl (mm_above _ _) (by decide) (fun v h1 q => ?_)
  obtain ⟨rfl, rfl⟩ := q
  refine px_PW.steps kt_191.2 1 rfl ?_
  refine px_PW.callV kt_191.2 rfl rfl rfl rfl (mg_2 (Z := Z) (F := F) h6 hn h7 ho hown _) (by decide) (fun v h1 q => ?_)
  obtain ⟨rfl, t1, p1, g1, ht1, hp1, rfl⟩ := q
  refine px_PW.ret kt_191.2 rfl rfl ?_
  exact ⟨rfl, t1, p1, g1, ht1, hp1, rfl⟩
theorem mg_6 {Z : Nat → Int32} {F : Nat → Nat → Int32} (h6 : 0 ≤ Z 6 ∧ (Z 6).toInt ≤ 30) {n own : Nat} (hn : n < 6) (h7 : Z 7 = nI n) (ho : F 0 (12 + 4 * n + 0) = nI own) (hown : own < 7) (x : Int32) : px_PM 5 191 [.ref 1000, .int 6, .int x] ([], px_MH Z F) (fun r h' => r = some (.int (r_parts 6 own (Z 7) (F 0 (12 + 4 * n + 1)) x)) ∧ ∃ (t p : Int32) (g : Nat → Int32), (0 ≤ t ∧ t.toInt ≤ 30) ∧ p = (if F 0 (12 + 4 * n + 1) - Z 7 = 0 then 1 else 0) ∧ h' = ([], px_MH (upd (upd Z 6 t) 8 p) (va_up F 10 g))) := by
  refine px_PM.start (nL := 5) (code := pc_191) rfl rfl ?_
  refine px_PW.steps kt_191.2 2 rfl ?_
  refine px_PW.at (pc' := 120) rfl ?_
  refine px_PW.steps kt_191.2 2 rfl ?_
  refine px_PW.callS kt_191.2 rfl rfl rfl (mm_above _ _) (by decide) (fun v h1 q => ?_)
  obtain ⟨rfl, rfl⟩ := q
  refine px_PW.steps kt_191.2 1 rfl ?_
  refine px_PW.callV kt_191.2 rfl rfl rfl rfl (mg_3 (Z := Z) (F := F) h6 hn h7 ho hown _) (by decide) (fun v h1 q => ?_)
  obtain ⟨rfl, t1, p1, g1, ht1, hp1, rfl⟩ := q
  refine px_PW.ret kt_191.2 rfl rfl ?_
  exact ⟨rfl, t1, p1, g1, ht1, hp1, rfl⟩
theorem mgE {Z : Nat → Int32} {F : Nat → Nat → Int32} {K : Nat} (hK : K < 7) {kk : Int32} (hk : kk = nI K) (h6 : 0 ≤ Z 6 ∧ (Z 6).toInt ≤ 30) {n own : Nat} (hn : n < 6) (h7 : Z 7 = nI n) (ho : F 0 (12 + 4 * n + 0) = nI own) (hown : own < 7) (x : Int32) : px_PM 9 191 [.ref 1000, .int kk, .int x] ([], px_MH Z F) (fun r h' => r = some (.int (r_parts K own (Z 7) (F 0 (12 + 4 * n + 1)) x)) ∧ ∃ (t p : Int32) (g : Nat → Int32), (0 ≤ t ∧ t.toInt ≤ 30) ∧ p = (if F 0 (12 + 4 * n + 1) - Z 7 = 0 then 1 else 0) ∧ h' = ([], px_MH (upd (upd Z 6 t) 8 p) (va_up F 10 g))) := by
  subst hk
  match K, hK with
  | 0, _ => exact (mg_0 h6 hn h7 ho hown x).mono (by decide) (fun _ _ q => q)
  | 1, _ => exact (mg_1 h6 hn h7 ho hown x).mono (by decide) (fun _ _ q => q)
  | 2, _ => exact (mg_2 h6 hn h7 ho hown x).mono (by decide) (fun _ _ q => q)
  | 3, _ => exact (mg_3 h6 hn h7 ho hown x).mono (by decide) (fun _ _ q => q)
  | 4, _ => exact (mg_4 h6 hn h7 ho hown x).mono (by decide) (fun _ _ q => q)
  | 5, _ => exact (mg_5 h6 hn h7 ho hown x).mono (by decide) (fun _ _ q => q)
  | 6, _ => exact (mg_6 h6 hn h7 ho hown x).mono (by decide) (fun _ _ q => q)
def s_mvw (own : Nat) (F : Nat → Nat → Int32) (thing voice x : Int32) : Int32 := if voice = 0 then r_drips own thing x else if voice = 1 then r_scores own own thing (F 0 (12 + 4 * thing.toNatClampNeg + 1)) x else if voice = 2 then r_snaps own own thing (F 0 (12 + 4 * thing.toNatClampNeg + 1)) x else if (F 0 (12 + 4 * thing.toNatClampNeg + 1)) - thing = 0 then -1000000000 - 6 else r_parts own own thing (F 0 (12 + 4 * thing.toNatClampNeg + 1)) x
def s_mvoice (F : Nat → Nat → Int32) (thing voice x : Int32) : Int32 := if 0 ≤ thing ∧ thing ≤ F 0 10 - 1 then if 0 ≤ voice ∧ voice ≤ 3 then s_mvw (F 0 (12 + 4 * thing.toNatClampNeg + 0)).toNatClampNeg F thing voice x else -1000000000 - 1 else -1000000000 - 1
theorem kc_mvoice {Z : Nat → Int32} {F : Nat → Nat → Int32} {M : Nat} (hM : F 0 10 = nI M) (hM6 : M ≤ 6) (hkd : ∀ n : Nat, n < M → ∃ kd : Nat, kd < 7 ∧ F 0 (12 + 4 * n + 0) = nI kd) (thing voice x : Int32) : px_PM 11 192 [.ref 1000, .int thing, .int voice, .int x] ([], px_MH Z F) (fun r h' => r = some (.int (s_mvoice F thing voice x)) ∧ ∃ Z' F', px_sm Z F Z' F' ∧ h' = ([], px_MH Z' F')) := by
  refine px_PM.start (nL := 6) (code := pc_192) rfl rfl ?_
  refine px_PW.steps kt_192.2 2 rfl ?_
  refine px_PW.callV kt_192.2 rfl rfl rfl rfl (mm_isThing _) (by decide) (fun v h1 q => ?_)
  obtain ⟨rfl, rfl⟩ := q
  refine px_PW.steps kt_192.2 1 rfl ?_
  refine px_PW.br (fun c0 => ?_) (fun c0 => ?_)
  · have c0 : ¬ (0 ≤ thing ∧ thing ≤ ((F 0) 10) - 1) := px_b1z (of_decide_eq_true c0)
    refine px_PW.steps kt_192.2 2 rfl ?_
    refine px_PW.callV kt_192.2 rfl rfl rfl rfl (mm_error 1 (by decide)) (by decide) (fun v h1 q => ?_)
    obtain ⟨rfl, rfl⟩ := q
    refine px_PW.ret kt_192.2 rfl rfl ?_
    have E : s_mvoice F thing voice x = -1000000000 - 1 := if_neg c0
    rw [E]
    exact ⟨rfl, _, _, px_sm.err, rfl⟩
  · have c0 : 0 ≤ thing ∧ thing ≤ ((F 0) 10) - 1 := px_b1n (of_decide_eq_false c0)
    refine px_PW.steps kt_192.2 3 rfl ?_
    refine px_PW.callS kt_192.2 rfl rfl rfl (cm_117 _ _ _ _) (by decide) (fun v h1 q => ?_)
    obtain ⟨rfl, rfl⟩ := q
    refine px_PW.steps kt_192.2 1 rfl ?_
    refine px_PW.br (fun c1 => ?_) (fun c1 => ?_)
    · have c1 : 0 ≤ voice ∧ voice ≤ 3 := px_b1n (of_decide_eq_false (px_nt c1))
      have hth := px_thN hM hM6 c0
      have hn := hth.2.2
      have h7 := hth.1
      obtain ⟨own, hown, ho⟩ := hkd _ hth.2.1
      have howe : (F 0 (12 + 4 * thing.toNatClampNeg + 0)).toNatClampNeg = own := by rw [ho, nI_clamp (by omega)]
      have h6 : (0 : Int32) ≤ 0 ∧ (0 : Int32).toInt ≤ 30 := by decide
      refine px_PW.steps kt_192.2 2 rfl ?_
      refine mo_6 kt_192.2 rfl ?_
      refine px_PW.steps kt_192.2 2 rfl ?_
      refine mo_7 kt_192.2 rfl ?_
      refine px_PW.steps kt_192.2 2 rfl ?_
      refine mo_8 kt_192.2 (by rfl) rfl ?_
      refine px_PW.steps kt_192.2 1 rfl ?_
      refine px_PW.callV kt_192.2 rfl rfl rfl rfl (mm_kindNow (Z := (upd (upd (upd Z 6 0) 7 thing) 8 0)) (F := F) (n := thing.toNatClampNeg) hn h7) (by decide) (fun v h1 q => ?_)
      obtain ⟨rfl, rfl⟩ := q
      refine px_PW.steps kt_192.2 3 rfl ?_
      refine px_PW.br (fun c2 => ?_) (fun c2 => ?_)
      · have c2 : ¬ (voice = 0) := of_decide_eq_false (px_nt c2)
        refine px_PW.steps kt_192.2 3 rfl ?_
        refine px_PW.br (fun c3 => ?_) (fun c3 => ?_)
        · have c3 : ¬ (voice = 1) := of_decide_eq_false (px_nt c3)
          refine px_PW.steps kt_192.2 3 rfl ?_
          refine px_PW.br (fun c4 => ?_) (fun c4 => ?_)
          · have c4 : ¬ (voice = 2) := of_decide_eq_false (px_nt c4)
            refine px_PW.steps kt_192.2 3 rfl ?_
            refine px_PW.callV kt_192.2 rfl rfl rfl rfl (mgE (Z := (upd (upd (upd Z 6 0) 7 thing) 8 0)) (F := F) hown ho h6 hn h7 ho hown _) (by decide) (fun v h1 q => ?_)
            obtain ⟨rfl, t1, p1, g1, ht1, hp1, rfl⟩ := q
            refine px_PW.steps kt_192.2 4 rfl ?_
            refine px_PW.br (fun c5 => ?_) (fun c5 => ?_)
            · have c5 : p1 = 0 := of_decide_eq_true c5
              refine px_PW.steps kt_192.2 1 rfl ?_
              refine px_PW.ret kt_192.2 rfl rfl ?_
              have hp1 : p1 = if (F 0 (12 + 4 * thing.toNatClampNeg + 1)) - thing = 0 then 1 else 0 := hp1
              have hq : ¬ ((F 0 (12 + 4 * thing.toNatClampNeg + 1)) - thing = 0) := fun q => by rw [if_pos q] at hp1; rw [hp1] at c5; exact absurd c5 (by decide)
              have E : s_mvoice F thing voice x = (r_parts own own thing (F 0 (12 + 4 * thing.toNatClampNeg + 1)) x) := by rw [show s_mvoice F thing voice x = s_mvw (F 0 (12 + 4 * thing.toNatClampNeg + 0)).toNatClampNeg F thing voice x from (if_pos c0).trans (if_pos c1), howe]; exact (if_neg c2).trans ((if_neg c3).trans ((if_neg c4).trans (if_neg hq)))
              rw [E]
              exact ⟨rfl, (upd (upd (upd (upd (upd Z 6 0) 7 thing) 8 0) 6 t1) 8 p1), (va_up F 10 g1), ⟨rfl, fun _ => ht1, rfl, rfl, rfl, rfl, rfl, rfl, rfl⟩, rfl⟩
            · have c5 : ¬ (p1 = 0) := of_decide_eq_false c5
              refine px_PW.steps kt_192.2 2 rfl ?_
              refine px_PW.callV kt_192.2 rfl rfl rfl rfl (mm_error 6 (by decide)) (by decide) (fun v h1 q => ?_)
              obtain ⟨rfl, rfl⟩ := q
              refine px_PW.steps kt_192.2 1 rfl ?_
              refine px_PW.ret kt_192.2 rfl rfl ?_
              have hp1 : p1 = if (F 0 (12 + 4 * thing.toNatClampNeg + 1)) - thing = 0 then 1 else 0 := hp1
              have hq : (F 0 (12 + 4 * thing.toNatClampNeg + 1)) - thing = 0 := Decidable.byContradiction (fun q => c5 (by rw [hp1]; exact if_neg q))
              have E : s_mvoice F thing voice x = -1000000000 - 6 := by rw [show s_mvoice F thing voice x = s_mvw (F 0 (12 + 4 * thing.toNatClampNeg + 0)).toNatClampNeg F thing voice x from (if_pos c0).trans (if_pos c1), howe]; exact (if_neg c2).trans ((if_neg c3).trans ((if_neg c4).trans (if_pos hq)))
              rw [E]
              exact ⟨rfl, _, _, px_sm.tr (⟨rfl, fun _ => ht1, rfl, rfl, rfl, rfl, rfl, rfl, rfl⟩ : px_sm Z F (upd (upd (upd (upd (upd Z 6 0) 7 thing) 8 0) 6 t1) 8 p1) (va_up F 10 g1)) px_sm.err, rfl⟩
          · have c4 : voice = 2 := of_decide_eq_true (px_nf c4)
            refine px_PW.steps kt_192.2 3 rfl ?_
            refine px_PW.callV kt_192.2 rfl rfl rfl rfl (mfE (Z := (upd (upd (upd Z 6 0) 7 thing) 8 0)) (F := F) hown ho h6 hn h7 ho hown _) (by decide) (fun v h1 q => ?_)
            obtain ⟨rfl, t1, g1, ht1, rfl⟩ := q
            refine px_PW.steps kt_192.2 5 rfl ?_
            refine px_PW.br (fun c6 => ?_) (fun c6 => ?_)
            · have c6 : (0 : Int32) = 0 := of_decide_eq_true c6
              refine px_PW.steps kt_192.2 1 rfl ?_
              refine px_PW.ret kt_192.2 rfl rfl ?_
              have E : s_mvoice F thing voice x = (r_snaps own own thing (F 0 (12 + 4 * thing.toNatClampNeg + 1)) x) := by rw [show s_mvoice F thing voice x = s_mvw (F 0 (12 + 4 * thing.toNatClampNeg + 0)).toNatClampNeg F thing voice x from (if_pos c0).trans (if_pos c1), howe]; exact (if_neg c2).trans ((if_neg c3).trans (if_pos c4))
              rw [E]
              exact ⟨rfl, (upd (upd (upd (upd Z 6 0) 7 thing) 8 0) 6 t1), (va_up F 10 g1), ⟨rfl, fun _ => ht1, rfl, rfl, rfl, rfl, rfl, rfl, rfl⟩, rfl⟩
            · have c6 : ¬ ((0 : Int32) = 0) := of_decide_eq_false c6
              exact absurd (rfl : (0 : Int32) = 0) c6
        · have c3 : voice = 1 := of_decide_eq_true (px_nf c3)
          refine px_PW.steps kt_192.2 3 rfl ?_
          refine px_PW.callV kt_192.2 rfl rfl rfl rfl (meE (Z := (upd (upd (upd Z 6 0) 7 thing) 8 0)) (F := F) hown ho h6 hn h7 ho hown _) (by decide) (fun v h1 q => ?_)
          obtain ⟨rfl, t1, g1, ht1, rfl⟩ := q
          refine px_PW.steps kt_192.2 5 rfl ?_
          refine px_PW.br (fun c7 => ?_) (fun c7 => ?_)
          · have c7 : (0 : Int32) = 0 := of_decide_eq_true c7
            refine px_PW.steps kt_192.2 1 rfl ?_
            refine px_PW.ret kt_192.2 rfl rfl ?_
            have E : s_mvoice F thing voice x = (r_scores own own thing (F 0 (12 + 4 * thing.toNatClampNeg + 1)) x) := by rw [show s_mvoice F thing voice x = s_mvw (F 0 (12 + 4 * thing.toNatClampNeg + 0)).toNatClampNeg F thing voice x from (if_pos c0).trans (if_pos c1), howe]; exact (if_neg c2).trans (if_pos c3)
            rw [E]
            exact ⟨rfl, (upd (upd (upd (upd Z 6 0) 7 thing) 8 0) 6 t1), (va_up F 10 g1), ⟨rfl, fun _ => ht1, rfl, rfl, rfl, rfl, rfl, rfl, rfl⟩, rfl⟩
          · have c7 : ¬ ((0 : Int32) = 0) := of_decide_eq_false c7
            exact absurd (rfl : (0 : Int32) = 0) c7
      · have c2 : voice = 0 := of_decide_eq_true (px_nf c2)
        refine px_PW.steps kt_192.2 3 rfl ?_
        refine px_PW.callV kt_192.2 rfl rfl rfl rfl (mdE (Z := (upd (upd (upd Z 6 0) 7 thing) 8 0)) (F := F) hown ho h6 _) (by decide) (fun v h1 q => ?_)
        obtain ⟨rfl, t1, g1, ht1, rfl⟩ := q
        refine px_PW.steps kt_192.2 5 rfl ?_
        refine px_PW.br (fun c8 => ?_) (fun c8 => ?_)
        · have c8 : (0 : Int32) = 0 := of_decide_eq_true c8
          refine px_PW.steps kt_192.2 1 rfl ?_
          refine px_PW.ret kt_192.2 rfl rfl ?_
          have E : s_mvoice F thing voice x = (r_drips own thing x) := by rw [show s_mvoice F thing voice x = s_mvw (F 0 (12 + 4 * thing.toNatClampNeg + 0)).toNatClampNeg F thing voice x from (if_pos c0).trans (if_pos c1), howe]; exact if_pos c2
          rw [E]
          exact ⟨rfl, (upd (upd (upd (upd Z 6 0) 7 thing) 8 0) 6 t1), (va_up F 10 g1), ⟨rfl, fun _ => ht1, rfl, rfl, rfl, rfl, rfl, rfl, rfl⟩, rfl⟩
        · have c8 : ¬ ((0 : Int32) = 0) := of_decide_eq_false c8
          exact absurd (rfl : (0 : Int32) = 0) c8
    · have c1 : ¬ (0 ≤ voice ∧ voice ≤ 3) := px_b1z (of_decide_eq_true (px_nf c1))
      refine px_PW.steps kt_192.2 2 rfl ?_
      refine px_PW.callV kt_192.2 rfl rfl rfl rfl (mm_error 1 (by decide)) (by decide) (fun v h1 q => ?_)
      obtain ⟨rfl, rfl⟩ := q
      refine px_PW.ret kt_192.2 rfl rfl ?_
      have E : s_mvoice F thing voice x = -1000000000 - 1 := (if_pos c0).trans (if_neg c1)
      rw [E]
      exact ⟨rfl, _, _, px_sm.err, rfl⟩
end
