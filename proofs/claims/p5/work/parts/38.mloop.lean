theorem px_PW.remN {d : Nat} {code : Nat → Option px_A} (hT : px_frT code) {Q : Option Value → px_H → Prop} {pc a b : Nat} {x y : Int32} {lv : px_L} {r : List Value} {h : px_H} (hc : code pc = some px_irem) (hx : x = nI a) (hy : y = nI b) (ha : a < 2 ^ 31) (h0 : 0 < b) (hb : b < 2 ^ 31) (k : px_PW d code Q (pc + 1) lv (.int (nI (a % b)) :: r) h) : px_PW d code Q pc lv (.int y :: .int x :: r) h := by
  subst hx hy
  refine px_PW.bin0 hT hc (nI_ne0 h0 hb) ?_
  rw [zz_rem ha hb]
  exact k
theorem px_PW.divN {d : Nat} {code : Nat → Option px_A} (hT : px_frT code) {Q : Option Value → px_H → Prop} {pc a b : Nat} {x y : Int32} {lv : px_L} {r : List Value} {h : px_H} (hc : code pc = some px_idiv) (hx : x = nI a) (hy : y = nI b) (ha : a < 2 ^ 31) (h0 : 0 < b) (hb : b < 2 ^ 31) (k : px_PW d code Q (pc + 1) lv (.int (nI (a / b)) :: r) h) : px_PW d code Q pc lv (.int y :: .int x :: r) h := by
  subst hx hy
  refine px_PW.bin0 hT hc (nI_ne0 h0 hb) ?_
  rw [zz_div ha hb]
  exact k
theorem mm_draw {Z : Nat → Int32} {F : Nat → Nat → Int32}   : px_PM 1 173 [.ref 1000] ([], px_MH Z F) (fun r h' => r = some (.int (nI (zz_dr (F 0 7)))) ∧ h' = ([], px_MH Z (va_up F 0 (upd (F 0) 7 (zz_dz (F 0 7)))))) := by
  refine px_PM.start (nL := 1) (code := pc_173) rfl rfl ?_
  refine px_PW.steps kt_173.2 6 rfl ?_
  refine px_PW.steps kt_173.2 1 rfl ?_
  refine px_PW.steps kt_173.2 4 rfl ?_
  refine ms_0 kt_173.2 rfl (n := 7) rfl (by decide) ?_
  refine px_PW.steps kt_173.2 3 rfl ?_
  refine px_PW.steps kt_173.2 1 rfl ?_
  refine px_PW.steps kt_173.2 2 rfl ?_
  refine px_PW.ret kt_173.2 rfl rfl ?_
  exact ⟨congrArg (fun z => some (Value.int z)) (zz_dr_eq (F 0 7)), rfl⟩
theorem mc_0 {d : Nat} {code : Nat → Option px_A} (hT : px_frT code) {Q : Option Value → px_H → Prop} {pc n : Nat} {i x : Int32} {lv : px_L} {r : List Value} {Z f : Nat → Int32} {F : Nat → Nat → Int32} (hc : code pc = some px_iast) (hi : i = nI n) (hn : n < 370) (kk : px_PW d code Q (pc + 1) lv r ([], px_MH Z (va_up F 0 (upd f n x)))) : px_PW d code Q pc lv (.int x :: .int i :: .ref 1001 :: r) ([], px_MH Z (va_up F 0 f)) := by
  refine ms_0 hT hc hi hn ?_
  rw [px_up_up, px_up_self]
  exact kk
theorem mm_drawC {Z f : Nat → Int32} {F : Nat → Nat → Int32} (z : Int32) (hz : f 7 = z) : px_PM 1 173 [.ref 1000] ([], px_MH Z (va_up F 0 f)) (fun r h' => r = some (.int (nI (zz_dr z))) ∧ h' = ([], px_MH Z (va_up F 0 (upd f 7 (zz_dz z))))) := by
  have h := mm_draw (Z := Z) (F := va_up F 0 f)
  rw [px_up_up, px_up_self, hz] at h
  exact h
theorem mm_laysC {Z f : Nat → Int32} {F : Nat → Nat → Int32} {n k : Nat} {t x : Int32} (ht : t = nI n) (hx : x = nI k) (hn : n < 6) (hk : k < 4) (v : Int32) : px_PM 1 123 [.ref 1000, .int t, .int x, .int v] ([], px_MH Z (va_up F 0 f)) (fun r h' => r = none ∧ h' = ([], px_MH Z (va_up F 0 (upd f (12 + 4 * n + k) v)))) := by
  have h := mm_lays1 (Z := Z) (F := va_up F 0 f) ht hx hn hk v
  rw [px_up_up, px_up_self] at h
  exact h
theorem px_pos {x : Int32} {M : Nat} (hM : x = nI M) (c : ¬ (x ≤ 0)) : 0 < M := by
  rcases Nat.eq_zero_or_pos M with h | h
  · subst h; subst hM; exact absurd (by decide) c
  · exact h
def s_mchg (dr : Int32 → Nat) (dz : Int32 → Int32) (L T M : Nat) (f : Nat → Int32) : Nat → Int32 := (if ((upd (upd f 7 (dz (f 7))) 6 (1 + (nI ((dr (f 7)) % T)))) 10) ≤ 0 then (upd (upd f 7 (dz (f 7))) 6 (1 + (nI ((dr (f 7)) % T)))) else (upd (upd (upd (upd (upd f 7 (dz (f 7))) 6 (1 + (nI ((dr (f 7)) % T)))) 7 (dz (dz (f 7)))) 7 (dz (dz (dz (f 7))))) (12 + 4 * ((dr (dz (f 7))) % M) + 2) (nI ((dr (dz (dz (f 7)))) % (L + 1)))))
def s_mchgs (dr : Int32 → Nat) (dz : Int32 → Int32) (L T M : Nat) : Nat → (Nat → Int32) → Nat → Int32
  | 0, f => f
  | m + 1, f => s_mchgs dr dz L T M m (s_mchg dr dz L T M f)
theorem s_mchg_keep {dr : Int32 → Nat} {dz : Int32 → Int32} {L T M : Nat} (f : Nat → Int32) (i : Nat) (hi : i < 12) (h6 : i ≠ 6) (h7 : i ≠ 7) : s_mchg dr dz L T M f i = f i := by
  unfold s_mchg
  split
  · rw [px_upd_ne _ _ h6, px_upd_ne _ _ h7]
  · rw [px_upd_ne _ _ (by omega), px_upd_ne _ _ h7, px_upd_ne _ _ h7, px_upd_ne _ _ h6, px_upd_ne _ _ h7]
theorem m_loose_loop {dr : Int32 → Nat} {dz : Int32 → Int32} (hdl : ∀ z : Int32, dr z < 16777216) (hdw : ∀ (Z f : Nat → Int32) (F : Nat → Nat → Int32) (z : Int32), f 7 = z → px_PM 1 173 [.ref 1000] ([], px_MH Z (va_up F 0 f)) (fun r h' => r = some (.int (nI (dr z))) ∧ h' = ([], px_MH Z (va_up F 0 (upd f 7 (dz z)))))) {Z : Nat → Int32} {F : Nat → Nat → Int32} {L T M : Nat} (hT1 : 1 ≤ T) (hT200 : T ≤ 200) (hL4 : L ≤ 4000) (hM6 : M ≤ 6) {n : Nat} (hn : n ≤ 40) {Q : Option Value → px_H → Prop} : ∀ (m k : Nat) (f : Nat → Int32) (o3 : Option Value), k + m = n → f 1 = nI T → f 0 = nI L → f 10 = nI M → (∀ o3 : Option Value, px_PW 1 pc_174 Q 91 [some (.ref 1000), some (.int (nI n)), some (.int (nI n)), o3] [] ([], px_MH Z (va_up F 0 (s_mchgs dr dz L T M m f)))) → px_PW 1 pc_174 Q 18 [some (.ref 1000), some (.int (nI n)), some (.int (nI k)), o3] [] ([], px_MH Z (va_up F 0 f))
  | m, k, f, o3, hk, hTi, hL, hM, H => by
    refine px_PW.steps kt_174.2 3 rfl ?_
    refine px_PW.br (fun c0 => ?_) (fun c0 => ?_)
    · have c0 : (nI n) ≤ (nI k) := of_decide_eq_true c0
      have c0 : n ≤ k := (nI_leI (a := n) (b := k) (by omega) (by omega)).mp c0
      obtain rfl : m = 0 := by omega
      obtain rfl : k = n := by omega
      exact H _
    · have c0 : ¬ ((nI n) ≤ (nI k)) := of_decide_eq_false c0
      have c0 : ¬ (n ≤ k) := fun q => c0 ((nI_leI (a := n) (b := k) (by omega) (by omega)).mpr q)
      obtain ⟨m2, rfl⟩ : ∃ m2, m = m2 + 1 := ⟨m - 1, by omega⟩
      refine px_PW.steps kt_174.2 5 rfl ?_
      refine px_PW.callV kt_174.2 rfl rfl rfl rfl (hdw _ _ _ (f 7) rfl) (by decide) (fun v h1 q => ?_)
      obtain ⟨rfl, rfl⟩ := q
      refine px_PW.steps kt_174.2 3 rfl ?_
      refine px_PW.steps kt_174.2 1 rfl ?_
      refine px_PW.remN kt_174.2 rfl (a := (dr (f 7))) (b := T) rfl (show _ = nI T from hTi) (Nat.lt_trans (hdl _) (by decide)) (by omega) (by omega) ?_
      refine px_PW.steps kt_174.2 1 rfl ?_
      refine mc_0 kt_174.2 rfl (n := 6) rfl (by decide) ?_
      refine px_PW.steps kt_174.2 3 rfl ?_
      refine px_PW.steps kt_174.2 1 rfl ?_
      refine px_PW.steps kt_174.2 1 rfl ?_
      refine px_PW.br (fun c1 => ?_) (fun c1 => ?_)
      · have c1 : ((upd (upd f 7 (dz (f 7))) 6 (1 + (nI ((dr (f 7)) % T)))) 10) ≤ 0 := of_decide_eq_true c1
        refine px_PW.steps kt_174.2 2 rfl ?_
        have e0 : s_mchg dr dz L T M f = (upd (upd f 7 (dz (f 7))) 6 (1 + (nI ((dr (f 7)) % T)))) := if_pos c1
        have g := m_loose_loop hdl hdw hT1 hT200 hL4 hM6 hn (Z := Z) (F := F) (Q := Q) m2 (k + 1) (s_mchg dr dz L T M f) (o3) (by omega) ((s_mchg_keep f 1 (by decide) (by decide) (by decide)).trans hTi) ((s_mchg_keep f 0 (by decide) (by decide) (by decide)).trans hL) ((s_mchg_keep f 10 (by decide) (by decide) (by decide)).trans hM) H
        rw [e0, nI_succ k] at g
        exact g
      · have c1 : ¬ (((upd (upd f 7 (dz (f 7))) 6 (1 + (nI ((dr (f 7)) % T)))) 10) ≤ 0) := of_decide_eq_false c1
        refine px_PW.steps kt_174.2 1 rfl ?_
        refine px_PW.callV kt_174.2 rfl rfl rfl rfl (hdw _ _ _ (dz (f 7)) rfl) (by decide) (fun v h1 q => ?_)
        obtain ⟨rfl, rfl⟩ := q
        refine px_PW.steps kt_174.2 3 rfl ?_
        refine px_PW.steps kt_174.2 1 rfl ?_
        refine px_PW.remN kt_174.2 rfl (a := (dr (dz (f 7)))) (b := M) rfl (show _ = nI M from hM) (Nat.lt_trans (hdl _) (by decide)) (px_pos hM c1) (by omega) ?_
        refine px_PW.steps kt_174.2 5 rfl ?_
        refine px_PW.callV kt_174.2 rfl rfl rfl rfl (hdw _ _ _ (dz (dz (f 7))) rfl) (by decide) (fun v h1 q => ?_)
        obtain ⟨rfl, rfl⟩ := q
        refine px_PW.steps kt_174.2 3 rfl ?_
        refine px_PW.steps kt_174.2 1 rfl ?_
        refine px_PW.steps kt_174.2 2 rfl ?_
        refine px_PW.remN kt_174.2 rfl (a := (dr (dz (dz (f 7))))) (b := L + 1) rfl (show f 0 + 1 = nI (L + 1) from by rw [hL, nI_succ]) (Nat.lt_trans (hdl _) (by decide)) (by omega) (by omega) ?_
        refine px_PW.callV kt_174.2 rfl rfl rfl rfl (mm_laysC (n := (dr (dz (f 7))) % M) (k := 2) rfl rfl (by have := Nat.mod_lt ((dr (dz (f 7)))) (px_pos hM c1); omega) (by omega) _) (by decide) (fun v h1 q => ?_)
        obtain ⟨rfl, rfl⟩ := q
        refine px_PW.steps kt_174.2 2 rfl ?_
        have e0 : s_mchg dr dz L T M f = (upd (upd (upd (upd (upd f 7 (dz (f 7))) 6 (1 + (nI ((dr (f 7)) % T)))) 7 (dz (dz (f 7)))) 7 (dz (dz (dz (f 7))))) (12 + 4 * ((dr (dz (f 7))) % M) + 2) (nI ((dr (dz (dz (f 7)))) % (L + 1)))) := if_neg c1
        have g := m_loose_loop hdl hdw hT1 hT200 hL4 hM6 hn (Z := Z) (F := F) (Q := Q) m2 (k + 1) (s_mchg dr dz L T M f) (some (.int (nI ((dr (dz (f 7))) % M)))) (by omega) ((s_mchg_keep f 1 (by decide) (by decide) (by decide)).trans hTi) ((s_mchg_keep f 0 (by decide) (by decide) (by decide)).trans hL) ((s_mchg_keep f 10 (by decide) (by decide) (by decide)).trans hM) H
        rw [e0, nI_succ k] at g
        exact g
theorem px_in40m {n : Int32} (c : 1 ≤ n ∧ n ≤ 40) : n = nI n.toNatClampNeg ∧ n.toNatClampNeg ≤ 40 := px_in40 (Int32.not_lt.mpr c.1) c.2
def s_mloose (L T M : Nat) (Z : Nat → Int32) (F : Nat → Nat → Int32) (n : Int32) : Int32 × (Nat → Int32) × (Nat → Nat → Int32) := (if 1 ≤ n ∧ n ≤ 40 then (((s_mchgs zz_dr zz_dz L T M n.toNatClampNeg (F 0)) 6), Z, (va_up F 0 (s_mchgs zz_dr zz_dz L T M n.toNatClampNeg (F 0)))) else ((-1000000000 - 1), Z, F))
theorem kc_mloose {Z : Nat → Int32} {F : Nat → Nat → Int32} {L T M : Nat} (hT1 : 1 ≤ T) (hT200 : T ≤ 200) (hL4 : L ≤ 4000) (hM6 : M ≤ 6) (hTi : F 0 1 = nI T) (hL : F 0 0 = nI L) (hM : F 0 10 = nI M) (n : Int32) : px_PM 2 174 [.ref 1000, .int n] ([], px_MH Z F) (fun r h' => r = some (.int (s_mloose L T M Z F n).1) ∧ ∃ Z' F', px_sm (s_mloose L T M Z F n).2.1 (s_mloose L T M Z F n).2.2 Z' F' ∧ h' = ([], px_MH Z' F')) := by
  refine px_PM.start (nL := 4) (code := pc_174) rfl rfl ?_
  refine px_PW.steps kt_174.2 3 rfl ?_
  refine px_PW.callS kt_174.2 rfl rfl rfl (cm_117 _ _ _ _) (by decide) (fun v h1 q => ?_)
  obtain ⟨rfl, rfl⟩ := q
  refine px_PW.steps kt_174.2 1 rfl ?_
  refine px_PW.br (fun c0 => ?_) (fun c0 => ?_)
  · have c0 : 1 ≤ n ∧ n ≤ 40 := px_b1n (of_decide_eq_false (px_nt c0))
    refine px_PW.steps kt_174.2 2 rfl ?_
    have hn := px_in40m c0
    refine px_PW.lc (lv' := [some (.ref 1000), some (.int (nI n.toNatClampNeg)), some (.int (nI 0)), none]) (by rw [← hn.1]; rfl) ?_
    refine px_PW.hp (h' := ([], px_MH Z (va_up F 0 (F 0)))) (by rw [px_up_id]) ?_
    refine m_loose_loop (dr := zz_dr) (dz := zz_dz) zz_dr_lt (fun _ _ _ z hz => mm_drawC z hz) hT1 hT200 hL4 hM6 hn.2 n.toNatClampNeg 0 (F 0) none (by omega) hTi hL hM (fun o3 => ?_)
    refine px_PW.steps kt_174.2 3 rfl ?_
    refine px_PW.steps kt_174.2 1 rfl ?_
    refine px_PW.ret kt_174.2 rfl rfl ?_
    have E : s_mloose L T M Z F n = (((s_mchgs zz_dr zz_dz L T M n.toNatClampNeg (F 0)) 6), Z, (va_up F 0 (s_mchgs zz_dr zz_dz L T M n.toNatClampNeg (F 0)))) := if_pos c0
    rw [E]
    exact ⟨rfl, _, _, px_sm.rf, rfl⟩
  · have c0 : ¬ (1 ≤ n ∧ n ≤ 40) := px_b1z (of_decide_eq_true (px_nf c0))
    refine px_PW.steps kt_174.2 2 rfl ?_
    refine px_PW.callV kt_174.2 rfl rfl rfl rfl (mm_error 1 (by decide)) (by decide) (fun v h1 q => ?_)
    obtain ⟨rfl, rfl⟩ := q
    refine px_PW.ret kt_174.2 rfl rfl ?_
    have E : s_mloose L T M Z F n = ((-1000000000 - 1), Z, F) := if_neg c0
    rw [E]
    exact ⟨rfl, _, _, px_sm.err, rfl⟩
def s_mmiddle (Z : Nat → Int32) (F : Nat → Nat → Int32) (what : Int32) : Int32 := (if 0 ≤ what ∧ what ≤ 1 then (if what = 0 then (if 1 ≤ (((((F 0) 0) - ((F 0) 2)) / 2) - ((((F 0) 0) - ((F 0) 2)) / 2) / (((F 0) 1) + ((F 0) 2)) * (((F 0) 1) + ((F 0) 2))) ∧ (((((F 0) 0) - ((F 0) 2)) / 2) - ((((F 0) 0) - ((F 0) 2)) / 2) / (((F 0) 1) + ((F 0) 2)) * (((F 0) 1) + ((F 0) 2))) ≤ ((F 0) 1) then (((((F 0) 0) - ((F 0) 2)) / 2) - ((((F 0) 0) - ((F 0) 2)) / 2) / (((F 0) 1) + ((F 0) 2)) * (((F 0) 1) + ((F 0) 2))) else ((F 0) 1)) else (if 1 ≤ ((((((F 0) 0) - ((F 0) 1)) / 2) - ((F 0) 2)) - (((((F 0) 0) - ((F 0) 1)) / 2) - ((F 0) 2)) / (((F 0) 1) + ((F 0) 2)) * (((F 0) 1) + ((F 0) 2))) ∧ ((((((F 0) 0) - ((F 0) 1)) / 2) - ((F 0) 2)) - (((((F 0) 0) - ((F 0) 1)) / 2) - ((F 0) 2)) / (((F 0) 1) + ((F 0) 2)) * (((F 0) 1) + ((F 0) 2))) ≤ ((F 0) 1) then ((((((F 0) 0) - ((F 0) 1)) / 2) - ((F 0) 2)) - (((((F 0) 0) - ((F 0) 1)) / 2) - ((F 0) 2)) / (((F 0) 1) + ((F 0) 2)) * (((F 0) 1) + ((F 0) 2))) else ((F 0) 1))) else (-1000000000 - 1))
theorem kc_mmiddle {Z : Nat → Int32} {F : Nat → Nat → Int32} (hTJ : ¬ (F 0 1 + F 0 2 = 0)) (what : Int32) : px_PM 2 179 [.ref 1000, .int what] ([], px_MH Z F) (fun r h' => r = some (.int (s_mmiddle Z F what)) ∧ ∃ Z' F', px_sm Z F Z' F' ∧ h' = ([], px_MH Z' F')) := by
  refine px_PM.start (nL := 4) (code := pc_179) rfl rfl ?_
  refine px_PW.steps kt_179.2 3 rfl ?_
  refine px_PW.callS kt_179.2 rfl rfl rfl (cm_117 _ _ _ _) (by decide) (fun v h1 q => ?_)
  obtain ⟨rfl, rfl⟩ := q
  refine px_PW.steps kt_179.2 1 rfl ?_
  refine px_PW.br (fun c0 => ?_) (fun c0 => ?_)
  · have c0 : 0 ≤ what ∧ what ≤ 1 := px_b1n (of_decide_eq_false (px_nt c0))
    refine px_PW.steps kt_179.2 2 rfl ?_
    refine px_PW.br (fun c1 => ?_) (fun c1 => ?_)
    · have c1 : ¬ (what = 0) := of_decide_eq_false (px_nt c1)
      refine px_PW.steps kt_179.2 3 rfl ?_
      refine px_PW.steps kt_179.2 1 rfl ?_
      refine px_PW.steps kt_179.2 3 rfl ?_
      refine px_PW.steps kt_179.2 1 rfl ?_
      refine px_PW.steps kt_179.2 6 rfl ?_
      refine px_PW.steps kt_179.2 1 rfl ?_
      refine px_PW.steps kt_179.2 6 rfl ?_
      refine px_PW.steps kt_179.2 1 rfl ?_
      refine px_PW.steps kt_179.2 3 rfl ?_
      refine px_PW.steps kt_179.2 1 rfl ?_
      refine px_PW.steps kt_179.2 1 rfl ?_
      refine px_PW.bin0 kt_179.2 rfl hTJ ?_
      refine px_PW.steps kt_179.2 6 rfl ?_
      refine px_PW.steps kt_179.2 1 rfl ?_
      refine px_PW.callS kt_179.2 rfl rfl rfl (cm_117 _ _ _ _) (by decide) (fun v h1 q => ?_)
      obtain ⟨rfl, rfl⟩ := q
      refine px_PW.steps kt_179.2 1 rfl ?_
      refine px_PW.br (fun c2 => ?_) (fun c2 => ?_)
      · have c2 : ¬ (1 ≤ ((((((F 0) 0) - ((F 0) 1)) / 2) - ((F 0) 2)) - (((((F 0) 0) - ((F 0) 1)) / 2) - ((F 0) 2)) / (((F 0) 1) + ((F 0) 2)) * (((F 0) 1) + ((F 0) 2))) ∧ ((((((F 0) 0) - ((F 0) 1)) / 2) - ((F 0) 2)) - (((((F 0) 0) - ((F 0) 1)) / 2) - ((F 0) 2)) / (((F 0) 1) + ((F 0) 2)) * (((F 0) 1) + ((F 0) 2))) ≤ ((F 0) 1)) := px_b1z (of_decide_eq_true c2)
        refine px_PW.steps kt_179.2 3 rfl ?_
        refine px_PW.steps kt_179.2 1 rfl ?_
        refine px_PW.ret kt_179.2 rfl rfl ?_
        have E : s_mmiddle Z F what = ((F 0) 1) := (if_pos c0).trans ((if_neg c1).trans (if_neg c2))
        rw [E]
        exact ⟨rfl, _, _, px_sm.rf, rfl⟩
      · have c2 : 1 ≤ ((((((F 0) 0) - ((F 0) 1)) / 2) - ((F 0) 2)) - (((((F 0) 0) - ((F 0) 1)) / 2) - ((F 0) 2)) / (((F 0) 1) + ((F 0) 2)) * (((F 0) 1) + ((F 0) 2))) ∧ ((((((F 0) 0) - ((F 0) 1)) / 2) - ((F 0) 2)) - (((((F 0) 0) - ((F 0) 1)) / 2) - ((F 0) 2)) / (((F 0) 1) + ((F 0) 2)) * (((F 0) 1) + ((F 0) 2))) ≤ ((F 0) 1) := px_b1n (of_decide_eq_false c2)
        refine px_PW.steps kt_179.2 2 rfl ?_
        refine px_PW.ret kt_179.2 rfl rfl ?_
        have E : s_mmiddle Z F what = ((((((F 0) 0) - ((F 0) 1)) / 2) - ((F 0) 2)) - (((((F 0) 0) - ((F 0) 1)) / 2) - ((F 0) 2)) / (((F 0) 1) + ((F 0) 2)) * (((F 0) 1) + ((F 0) 2))) := (if_pos c0).trans ((if_neg c1).trans (if_pos c2))
        rw [E]
        exact ⟨rfl, _, _, px_sm.rf, rfl⟩
    · have c1 : what = 0 := of_decide_eq_true (px_nf c1)
      refine px_PW.steps kt_179.2 3 rfl ?_
      refine px_PW.steps kt_179.2 1 rfl ?_
      refine px_PW.steps kt_179.2 3 rfl ?_
      refine px_PW.steps kt_179.2 1 rfl ?_
      refine px_PW.steps kt_179.2 9 rfl ?_
      refine px_PW.steps kt_179.2 1 rfl ?_
      refine px_PW.steps kt_179.2 3 rfl ?_
      refine px_PW.steps kt_179.2 1 rfl ?_
      refine px_PW.steps kt_179.2 1 rfl ?_
      refine px_PW.bin0 kt_179.2 rfl hTJ ?_
      refine px_PW.steps kt_179.2 6 rfl ?_
      refine px_PW.steps kt_179.2 1 rfl ?_
      refine px_PW.callS kt_179.2 rfl rfl rfl (cm_117 _ _ _ _) (by decide) (fun v h1 q => ?_)
      obtain ⟨rfl, rfl⟩ := q
      refine px_PW.steps kt_179.2 1 rfl ?_
      refine px_PW.br (fun c3 => ?_) (fun c3 => ?_)
      · have c3 : ¬ (1 ≤ (((((F 0) 0) - ((F 0) 2)) / 2) - ((((F 0) 0) - ((F 0) 2)) / 2) / (((F 0) 1) + ((F 0) 2)) * (((F 0) 1) + ((F 0) 2))) ∧ (((((F 0) 0) - ((F 0) 2)) / 2) - ((((F 0) 0) - ((F 0) 2)) / 2) / (((F 0) 1) + ((F 0) 2)) * (((F 0) 1) + ((F 0) 2))) ≤ ((F 0) 1)) := px_b1z (of_decide_eq_true c3)
        refine px_PW.steps kt_179.2 3 rfl ?_
        refine px_PW.steps kt_179.2 1 rfl ?_
        refine px_PW.ret kt_179.2 rfl rfl ?_
        have E : s_mmiddle Z F what = ((F 0) 1) := (if_pos c0).trans ((if_pos c1).trans (if_neg c3))
        rw [E]
        exact ⟨rfl, _, _, px_sm.rf, rfl⟩
      · have c3 : 1 ≤ (((((F 0) 0) - ((F 0) 2)) / 2) - ((((F 0) 0) - ((F 0) 2)) / 2) / (((F 0) 1) + ((F 0) 2)) * (((F 0) 1) + ((F 0) 2))) ∧ (((((F 0) 0) - ((F 0) 2)) / 2) - ((((F 0) 0) - ((F 0) 2)) / 2) / (((F 0) 1) + ((F 0) 2)) * (((F 0) 1) + ((F 0) 2))) ≤ ((F 0) 1) := px_b1n (of_decide_eq_false c3)
        refine px_PW.steps kt_179.2 2 rfl ?_
        refine px_PW.ret kt_179.2 rfl rfl ?_
        have E : s_mmiddle Z F what = (((((F 0) 0) - ((F 0) 2)) / 2) - ((((F 0) 0) - ((F 0) 2)) / 2) / (((F 0) 1) + ((F 0) 2)) * (((F 0) 1) + ((F 0) 2))) := (if_pos c0).trans ((if_pos c1).trans (if_pos c3))
        rw [E]
        exact ⟨rfl, _, _, px_sm.rf, rfl⟩
  · have c0 : ¬ (0 ≤ what ∧ what ≤ 1) := px_b1z (of_decide_eq_true (px_nf c0))
    refine px_PW.steps kt_179.2 2 rfl ?_
    refine px_PW.callV kt_179.2 rfl rfl rfl rfl (mm_error 1 (by decide)) (by decide) (fun v h1 q => ?_)
    obtain ⟨rfl, rfl⟩ := q
    refine px_PW.ret kt_179.2 rfl rfl ?_
    have E : s_mmiddle Z F what = (-1000000000 - 1) := if_neg c0
    rw [E]
    exact ⟨rfl, _, _, px_sm.err, rfl⟩
def s_mchp (L T : Nat) (j : Nat) : Bool := decide ((L + j) % (T + j) = 0)
def s_mcheatE (L T : Nat) (what : Int32) (x : Option Nat) : Int32 := match x with
  | some j => if what = 0 then nI j else nI ((L + j) / (T + j))
  | none => -1000000000 - 2
def s_mcheat (L T : Nat) (what : Int32) : Int32 := if 0 ≤ what ∧ what ≤ 1 then s_mcheatE L T what (zz_find (s_mchp L T) 10 0) else -1000000000 - 1
theorem m_cheat_loop {Z : Nat → Int32} {F : Nat → Nat → Int32} {L T : Nat} (hTi : F 0 1 = nI T) (hL : F 0 0 = nI L) (hT1 : 1 ≤ T) (hT200 : T ≤ 200) (hL4 : L ≤ 4000) {what : Int32} {Q : Option Value → px_H → Prop} : ∀ (m k : Nat) (o3 : Option Value), k + m = 10 → (∀ j : Nat, j < 10 → zz_find (s_mchp L T) m k = some j → px_PW 1 pc_178 Q 45 [some (.ref 1000), some (.int what), some (.int (nI j)), some (.int (F 0 1 + nI j))] [] ([], px_MH Z F)) → (zz_find (s_mchp L T) m k = none → ∀ o3 : Option Value, px_PW 1 pc_178 Q 70 [some (.ref 1000), some (.int what), some (.int (nI 10)), o3] [] ([], px_MH Z F)) → px_PW 1 pc_178 Q 17 [some (.ref 1000), some (.int what), some (.int (nI k)), o3] [] ([], px_MH Z F)
  | m, k, o3, hk, HF, HE => by
    refine px_PW.steps kt_178.2 3 rfl ?_
    refine px_PW.br (fun c0 => ?_) (fun c0 => ?_)
    · have c0 : 9 < (nI k) := of_decide_eq_true c0
      have c0 : 9 < k := (nI_ltI (a := 9) (b := k) (by omega) (by omega)).mp c0
      obtain rfl : m = 0 := by omega
      obtain rfl : k = 10 := by omega
      exact HE rfl _
    · have c0 : ¬ (9 < (nI k)) := of_decide_eq_false c0
      have c0 : ¬ (9 < k) := fun q => c0 ((nI_ltI (a := 9) (b := k) (by omega) (by omega)).mpr q)
      obtain ⟨m2, rfl⟩ : ∃ m2, m = m2 + 1 := ⟨m - 1, by omega⟩
      refine px_PW.steps kt_178.2 3 rfl ?_
      refine px_PW.steps kt_178.2 1 rfl ?_
      refine px_PW.steps kt_178.2 6 rfl ?_
      refine px_PW.steps kt_178.2 1 rfl ?_
      refine px_PW.steps kt_178.2 3 rfl ?_
      refine px_PW.remN kt_178.2 rfl (a := L + k) (b := T + k) (show F 0 0 + nI k = nI (L + k) from by rw [hL, nI_add]) (show F 0 1 + nI k = nI (T + k) from by rw [hTi, nI_add]) (by omega) (by omega) (by omega) ?_
      refine px_PW.steps kt_178.2 1 rfl ?_
      refine px_PW.br (fun c1 => ?_) (fun c1 => ?_)
      · have c1 : ¬ ((nI ((L + k) % (T + k))) = 0) := of_decide_eq_false (px_nt c1)
        have hlt : (L + k) % (T + k) < T + k := Nat.mod_lt _ (by omega)
        have c1 : ¬ ((L + k) % (T + k) = 0) := fun q => c1 (by rw [q]; rfl)
        refine px_PW.steps kt_178.2 2 rfl ?_
        have e : ¬ (s_mchp L T k = true) := fun q => c1 (of_decide_eq_true q)
        have g := m_cheat_loop hTi hL hT1 hT200 hL4 (Z := Z) (Q := Q) (what := what) m2 (k + 1) (some (.int (F 0 1 + nI k))) (by omega) (fun j hj9 hj => HF j hj9 ((zz_find_n e).trans hj)) (fun hj => HE ((zz_find_n e).trans hj))
        rw [nI_succ] at g
        exact g
      · have c1 : (nI ((L + k) % (T + k))) = 0 := of_decide_eq_true (px_nf c1)
        have hlt : (L + k) % (T + k) < T + k := Nat.mod_lt _ (by omega)
        have c1 : (L + k) % (T + k) = 0 := (nI_eq (b := 0) (by omega) (by omega)).mp c1
        exact HF k (by omega) (zz_find_y (show s_mchp L T k = true from decide_eq_true c1))
theorem kc_mcheat {Z : Nat → Int32} {F : Nat → Nat → Int32} {L T : Nat} (hTi : F 0 1 = nI T) (hL : F 0 0 = nI L) (hT1 : 1 ≤ T) (hT200 : T ≤ 200) (hL4 : L ≤ 4000) (what : Int32) : px_PM 2 178 [.ref 1000, .int what] ([], px_MH Z F) (fun r h' => r = some (.int (s_mcheat L T what)) ∧ ∃ Z' F', px_sm Z F Z' F' ∧ h' = ([], px_MH Z' F')) := by
  refine px_PM.start (nL := 4) (code := pc_178) rfl rfl ?_
  refine px_PW.steps kt_178.2 3 rfl ?_
  refine px_PW.callS kt_178.2 rfl rfl rfl (cm_117 _ _ _ _) (by decide) (fun v h1 q => ?_)
  obtain ⟨rfl, rfl⟩ := q
  refine px_PW.steps kt_178.2 1 rfl ?_
  refine px_PW.br (fun c0 => ?_) (fun c0 => ?_)
  · have c0 : 0 ≤ what ∧ what ≤ 1 := px_b1n (of_decide_eq_false (px_nt c0))
    refine px_PW.steps kt_178.2 2 rfl ?_
    refine m_cheat_loop hTi hL hT1 hT200 hL4 10 0 none rfl (fun j hj9 hj => ?_) (fun hj o3 => ?_)
    · refine px_PW.steps kt_178.2 2 rfl ?_
      refine px_PW.br (fun c5 => ?_) (fun c5 => ?_)
      · have c5 : ¬ (what = 0) := of_decide_eq_false (px_nt c5)
        refine px_PW.steps kt_178.2 3 rfl ?_
        refine px_PW.steps kt_178.2 1 rfl ?_
        refine px_PW.steps kt_178.2 3 rfl ?_
        refine px_PW.divN kt_178.2 rfl (a := L + j) (b := T + j) (show F 0 0 + nI j = nI (L + j) from by rw [hL, nI_add]) (show F 0 1 + nI j = nI (T + j) from by rw [hTi, nI_add]) (by omega) (by omega) (by omega) ?_
        refine px_PW.ret kt_178.2 rfl rfl ?_
        have E : s_mcheat L T what = (nI ((L + j) / (T + j))) := (if_pos c0).trans (by rw [hj]; exact if_neg c5)
        rw [E]
        exact ⟨rfl, _, _, px_sm.rf, rfl⟩
      · have c5 : what = 0 := of_decide_eq_true (px_nf c5)
        refine px_PW.steps kt_178.2 2 rfl ?_
        refine px_PW.ret kt_178.2 rfl rfl ?_
        have E : s_mcheat L T what = (nI j) := (if_pos c0).trans (by rw [hj]; exact if_pos c5)
        rw [E]
        exact ⟨rfl, _, _, px_sm.rf, rfl⟩
    · refine px_PW.steps kt_178.2 2 rfl ?_
      refine px_PW.callV kt_178.2 rfl rfl rfl rfl (mm_error 2 (by decide)) (by decide) (fun v h1 q => ?_)
      obtain ⟨rfl, rfl⟩ := q
      refine px_PW.ret kt_178.2 rfl rfl ?_
      have E : s_mcheat L T what = (-1000000000 - 2) := (if_pos c0).trans (by rw [hj]; exact rfl)
      rw [E]
      exact ⟨rfl, _, _, px_sm.err, rfl⟩
  · have c0 : ¬ (0 ≤ what ∧ what ≤ 1) := px_b1z (of_decide_eq_true (px_nf c0))
    refine px_PW.steps kt_178.2 2 rfl ?_
    refine px_PW.callV kt_178.2 rfl rfl rfl rfl (mm_error 1 (by decide)) (by decide) (fun v h1 q => ?_)
    obtain ⟨rfl, rfl⟩ := q
    refine px_PW.ret kt_178.2 rfl rfl ?_
    have E : s_mcheat L T what = (-1000000000 - 1) := if_neg c0
    rw [E]
    exact ⟨rfl, _, _, px_sm.err, rfl⟩
theorem m_div_loop {a0 b0 : Int32} {h : px_H} {Q : Option Value → px_H → Prop} : ∀ (y x : Nat) (o4 : Option Value), x < 1000 → y < 1000 → Q (some (.int (nI (Nat.gcd x y)))) h → px_PW 0 pc_180 Q 4 [some (.int a0), some (.int b0), some (.int (nI x)), some (.int (nI y)), o4] [] h
  | y, x, o4, hx, hy, H => by
    refine px_PW.steps kt_180.2 2 rfl ?_
    refine px_PW.br (fun c0 => ?_) (fun c0 => ?_)
    · have c0 : (nI y) = 0 := of_decide_eq_true c0
      have c0 : y = 0 := (nI_eq (b := 0) (by omega) (by omega)).mp c0
      refine px_PW.steps kt_180.2 1 rfl ?_
      refine px_PW.ret kt_180.2 rfl rfl ?_
      rw [c0, Nat.gcd_zero_right] at H
      exact H
    · have c0 : ¬ ((nI y) = 0) := of_decide_eq_false c0
      have c0 : ¬ (y = 0) := fun q => c0 (by rw [q]; rfl)
      refine px_PW.steps kt_180.2 2 rfl ?_
      have hlt : x % y < y := Nat.mod_lt _ (by omega)
      refine px_PW.remN kt_180.2 rfl (a := x) (b := y) rfl rfl (by omega) (by omega) (by omega) ?_
      refine px_PW.steps kt_180.2 6 rfl ?_
      exact m_div_loop (x % y) y _ (by omega) (by omega) (by rw [Nat.gcd_comm, ← Nat.gcd_rec, Nat.gcd_comm]; exact H)
  termination_by y => y
theorem mm_div {x y : Nat} (hx : x < 1000) (hy : y < 1000) {a b : Int32} (ha : a = nI x) (hb : b = nI y) (h : px_H) : px_PM 1 180 [.int a, .int b] h (fun r h' => r = some (.int (nI (Nat.gcd x y))) ∧ h' = h) := by
  subst ha hb
  refine px_PM.start (nL := 5) (code := pc_180) rfl rfl ?_
  refine px_PW.steps kt_180.2 4 rfl ?_
  exact m_div_loop y x none hx hy ⟨rfl, rfl⟩
