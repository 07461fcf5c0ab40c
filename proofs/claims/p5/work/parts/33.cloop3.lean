theorem zz_dec (n : Nat) : nI (n + 1) + -1 = nI n := (Int32.sub_eq_add_neg (nI (n + 1)) 1).symm.trans (nI_pred n)
def s_plp (F : Nat → Nat → Int32) (k j : Nat) : Bool := decide (¬ (F (19 + k) j < 0 ∨ 4000 < F (19 + k) j))
theorem px_lim19 {k : Nat} (hk : k < 4) : px_lim (19 + k) = 24 := by rcases (show k = 0 ∨ k = 1 ∨ k = 2 ∨ k = 3 by omega) with rfl | rfl | rfl | rfl <;> rfl
theorem c_pl_loop {Z N : Nat → Int32} {F : Nat → Nat → Int32} {k S M : Nat} (hk : k < 4) (hS : N (19 + k) = nI S) (hS24 : S ≤ 24) (hM3 : N 3 = nI M) (hM6 : M ≤ 6) {B : Nat} (hB : B = min S M) {Q : Option Value → px_H → Prop} : ∀ (m j : Nat), j + m = B → px_PW 2 pc_78 Q 101 [some (.ref 0), some (.int (nI k)), some (.ref (42 + 3 * k)), some (.int (nI B)), some (.int (nI (zz_run (s_plp F k) m j)))] [] (px_CH Z N (va_up F 3 (zz_pl (F (19 + k)) (F 3) 0 (zz_run (s_plp F k) m j))), []) → px_PW 2 pc_78 Q 53 [some (.ref 0), some (.int (nI k)), some (.ref (42 + 3 * k)), some (.int (nI B)), some (.int (nI j))] [] (px_CH Z N (va_up F 3 (zz_pl (F (19 + k)) (F 3) 0 j)), [])
  | m, j, hj, H => by
    refine px_PW.steps kt_78.2 3 rfl ?_
    refine px_PW.br (fun c0 => ?_) (fun c0 => ?_)
    · have c0 : (nI B) ≤ (nI j) := of_decide_eq_true c0
      have c0 : B ≤ j := (nI_leI (a := B) (b := j) (by omega) (by omega)).mp c0
      obtain rfl : m = 0 := by omega
      exact H
    · have c0 : ¬ ((nI B) ≤ (nI j)) := of_decide_eq_false c0
      have c0 : ¬ (B ≤ j) := fun q => c0 ((nI_leI (a := B) (b := j) (by omega) (by omega)).mpr q)
      obtain ⟨m2, rfl⟩ : ∃ m2, m = m2 + 1 := ⟨m - 1, by omega⟩
      refine px_PW.steps kt_78.2 1 rfl ?_
      refine px_PW.getf kt_78.2 rfl (ch_sh hk) rfl ?_
      refine px_PW.steps kt_78.2 1 rfl ?_
      refine px_PW.callV kt_78.2 rfl rfl (ch_isO (by omega)) rfl (nb_getN (q := 19 + k) (L := S) (by omega) hS (by rw [px_lim19 hk]; exact hS24) (show j < S by omega)) (by decide) (fun v h1 q => ?_)
      obtain ⟨rfl, rfl⟩ := q
      rw [show (va_up F 3 (zz_pl (F (19 + k)) (F 3) 0 j)) (19 + k) = F (19 + k) from px_up_ne F _ (by omega)]
      refine px_PW.callS kt_78.2 rfl rfl rfl (cc_isFrom _ _) (by decide) (fun v h1 q => ?_)
      obtain ⟨rfl, rfl⟩ := q
      refine px_PW.steps kt_78.2 1 rfl ?_
      refine px_PW.br (fun c1 => ?_) (fun c1 => ?_)
      · have c1 : (F (19 + k) j) < 0 ∨ 4000 < (F (19 + k) j) := px_b0z (of_decide_eq_true c1)
        rw [zz_run_n (show ¬ (s_plp F k j = true) from fun q => of_decide_eq_true q c1)] at H
        exact H
      · have c1 : ¬ ((F (19 + k) j) < 0 ∨ 4000 < (F (19 + k) j)) := px_b0n (of_decide_eq_false c1)
        refine px_PW.steps kt_78.2 5 rfl ?_
        refine px_PW.getf kt_78.2 rfl (ch_sh hk) rfl ?_
        refine px_PW.steps kt_78.2 1 rfl ?_
        refine px_PW.callV kt_78.2 rfl rfl (ch_isO (by omega)) rfl (nb_getN (q := 19 + k) (L := S) (by omega) hS (by rw [px_lim19 hk]; exact hS24) (show j < S by omega)) (by decide) (fun v h1 q => ?_)
        obtain ⟨rfl, rfl⟩ := q
        rw [show (va_up F 3 (zz_pl (F (19 + k)) (F 3) 0 j)) (19 + k) = F (19 + k) from px_up_ne F _ (by omega)]
        refine px_PW.callV kt_78.2 rfl rfl rfl rfl (nb_setN (q := 3) (L := M) (by decide) hM3 (show M ≤ px_lim 3 from hM6) (show j < M by omega) _) (by decide) (fun v h1 q => ?_)
        obtain ⟨rfl, rfl⟩ := q
        refine px_PW.steps kt_78.2 2 rfl ?_
        rw [zz_run_y (show s_plp F k j = true from decide_eq_true c1)] at H
        have g := c_pl_loop hk hS hS24 hM3 hM6 hB (Q := Q) (Z := Z) m2 (j + 1) (by omega) H
        have e2 : (va_up F 3 (zz_pl (F (19 + k)) (F 3) 0 (j + 1))) = (va_up (va_up F 3 (zz_pl (F (19 + k)) (F 3) 0 j)) 3 (upd (zz_pl (F (19 + k)) (F 3) 0 j) j (F (19 + k) j))) := by rw [px_up_up, zz_pl_s0]
        rw [e2, nI_succ j] at g
        exact g
def s_places (S M : Nat) (Z N : Nat → Int32) (F : Nat → Nat → Int32) (k : Nat) : Int32 × (Nat → Int32) × (Nat → Int32) × (Nat → Nat → Int32) := (if (Z (2 + k)) = 0 then ((-1000000000 - 2), Z, N, F) else ((nI (zz_run (s_plp F k) (min S M) 0)), Z, N, (va_up F 3 (zz_pl (F (19 + k)) (F 3) 0 (zz_run (s_plp F k) (min S M) 0)))))
theorem kc_places {Z N : Nat → Int32} {F : Nat → Nat → Int32} (hw : px_cw N) (k : Nat) {S M : Nat} (hk : k < 4) (hS : N (19 + k) = nI S) (hS24 : S ≤ 24) (hM3 : N 3 = nI M) (hM6 : M ≤ 6) : px_PM 3 78 [.ref 0, .int (nI k)] (px_CH Z N F, []) (fun r h' => r = some (.int (s_places S M Z N F k).1) ∧ ∃ Z' N' F', px_sc (s_places S M Z N F k).2.1 (s_places S M Z N F k).2.2.1 (s_places S M Z N F k).2.2.2 Z' N' F' ∧ h' = (px_CH Z' N' F', [])) := by
  refine px_PM.start (nL := 5) (code := pc_78) rfl rfl ?_
  refine px_PW.steps kt_78.2 2 rfl ?_
  refine px_PW.callV kt_78.2 rfl rfl rfl rfl (cc_sheetAt k hk) (by decide) (fun v h1 q => ?_)
  obtain ⟨rfl, rfl⟩ := q
  refine px_PW.steps kt_78.2 4 rfl ?_
  refine px_PW.callV kt_78.2 rfl rfl (ch_isSh hk) rfl (cc_isMissing hk) (by decide) (fun v h1 q => ?_)
  obtain ⟨rfl, rfl⟩ := q
  refine px_PW.steps kt_78.2 1 rfl ?_
  refine px_PW.br (fun c0 => ?_) (fun c0 => ?_)
  · have c0 : ¬ ((Z (2 + k)) = 0) := px_b1z (of_decide_eq_true c0)
    refine px_PW.steps kt_78.2 1 rfl ?_
    refine px_PW.getf kt_78.2 rfl (ch_sh hk) rfl ?_
    refine px_PW.callV kt_78.2 rfl rfl (ch_isO (by omega)) rfl (nb_size (q := 19 + k) (by omega)) (by decide) (fun v h1 q => ?_)
    obtain ⟨rfl, rfl⟩ := q
    refine px_PW.steps kt_78.2 3 rfl ?_
    refine px_PW.callV kt_78.2 rfl rfl rfl rfl (nb_size (q := 3) (by decide)) (by decide) (fun v h1 q => ?_)
    obtain ⟨rfl, rfl⟩ := q
    refine px_PW.steps kt_78.2 4 rfl ?_
    refine px_PW.lc (lv' := [some (.ref 0), some (.int (nI k)), some (.ref (42 + 3 * k)), some (.int (nI (min S M))), some (.int (nI 0))]) (by rw [← zz_min S M (by omega) (by omega), ← hS, ← hM3]; rfl) ?_
    refine px_PW.hp (h' := (px_CH Z N (va_up F 3 (zz_pl (F (19 + k)) (F 3) 0 0)), [])) (by rw [zz_pl_0, px_up_id]) ?_
    refine c_pl_loop hk hS hS24 hM3 hM6 rfl (min S M) 0 (by omega) ?_
    refine px_PW.steps kt_78.2 1 rfl ?_
    refine px_PW.ret kt_78.2 rfl rfl ?_
    have E : s_places S M Z N F k = ((nI (zz_run (s_plp F k) (min S M) 0)), Z, N, (va_up F 3 (zz_pl (F (19 + k)) (F 3) 0 (zz_run (s_plp F k) (min S M) 0)))) := if_neg c0
    rw [E]
    exact ⟨rfl, _, _, _, px_sc.rf, rfl⟩
  · have c0 : (Z (2 + k)) = 0 := px_b1n (of_decide_eq_false c0)
    refine px_PW.steps kt_78.2 2 rfl ?_
    refine px_PW.callV kt_78.2 rfl rfl rfl rfl (cc_error hw.2.2.1 2 (by decide)) (by decide) (fun v h1 q => ?_)
    obtain ⟨rfl, rfl⟩ := q
    refine px_PW.ret kt_78.2 rfl rfl ?_
    have E : s_places S M Z N F k = ((-1000000000 - 2), Z, N, F) := if_pos c0
    rw [E]
    exact ⟨rfl, _, _, _, px_sc.err, rfl⟩
def s_placesB (Z N : Nat → Int32) (F : Nat → Nat → Int32) (sheet : Int32) : Int32 × (Nat → Int32) × (Nat → Int32) × (Nat → Nat → Int32) := ((-1000000000 - 1), Z, N, F)
theorem kc_placesB {Z N : Nat → Int32} {F : Nat → Nat → Int32} (hw : px_cw N) (sheet : Int32) (hb : sheet < 0 ∨ 4 ≤ sheet) : px_PM 3 78 [.ref 0, .int sheet] (px_CH Z N F, []) (fun r h' => r = some (.int (s_placesB Z N F sheet).1) ∧ ∃ Z' N' F', px_sc (s_placesB Z N F sheet).2.1 (s_placesB Z N F sheet).2.2.1 (s_placesB Z N F sheet).2.2.2 Z' N' F' ∧ h' = (px_CH Z' N' F', [])) := by
  refine px_PM.start (nL := 5) (code := pc_78) rfl rfl ?_
  refine px_PW.steps kt_78.2 2 rfl ?_
  refine px_PW.callV kt_78.2 rfl rfl rfl rfl (cc_sheetAtB _ hb) (by decide) (fun v h1 q => ?_)
  obtain ⟨rfl, rfl⟩ := q
  refine px_PW.steps kt_78.2 5 rfl ?_
  refine px_PW.callV kt_78.2 rfl rfl rfl rfl (cc_error hw.2.2.1 1 (by decide)) (by decide) (fun v h1 q => ?_)
  obtain ⟨rfl, rfl⟩ := q
  refine px_PW.ret kt_78.2 rfl rfl ?_
  have E : s_placesB Z N F sheet = ((-1000000000 - 1), Z, N, F) := rfl
  rw [E]
  exact ⟨rfl, _, _, _, px_sc.err, rfl⟩
def s_ckp (M : Nat) (F : Nat → Nat → Int32) (j : Nat) : Bool := decide (j < M) && decide (F 3 j = F 8 j)
def s_ckr (W e : Nat) : Int32 := if e = W then 0 else 1 + nI e
theorem zz_1k {k : Nat} (h : k < 1000) : ¬ (1 + nI k = 0) := by
  rw [show (1 : Int32) = nI 1 from rfl, nI_add]
  exact nI_ne0 (by omega) (by omega)
theorem c_ck_loop {Z N : Nat → Int32} {F : Nat → Nat → Int32} {M W : Nat} (hM3 : N 3 = nI M) (hM6 : M ≤ 6) (hW8 : N 8 = nI W) (hW24 : W ≤ 24) {Q : Option Value → px_H → Prop} : ∀ (m k : Nat), k + m = W → (∀ o3 : Option Value, px_PW 1 pc_83 Q 73 [some (.ref 0), some (.int (nI W)), some (.int (s_ckr W (zz_run (s_ckp M F) m k))), o3] [] (px_CH Z N F, [])) → px_PW 1 pc_83 Q 15 [some (.ref 0), some (.int (nI W)), some (.int 0), some (.int (nI k))] [] (px_CH Z N F, [])
  | m, k, hk, H => by
    refine px_PW.steps kt_83.2 3 rfl ?_
    refine px_PW.br (fun c0 => ?_) (fun c0 => ?_)
    · have c0 : (nI W) ≤ (nI k) := of_decide_eq_true c0
      have c0 : W ≤ k := (nI_leI (a := W) (b := k) (by omega) (by omega)).mp c0
      obtain rfl : m = 0 := by omega
      have e : s_ckr W (zz_run (s_ckp M F) 0 k) = 0 := if_pos (by unfold zz_run; omega)
      rw [e] at H
      exact H _
    · have c0 : ¬ ((nI W) ≤ (nI k)) := of_decide_eq_false c0
      have c0 : ¬ (W ≤ k) := fun q => c0 ((nI_leI (a := W) (b := k) (by omega) (by omega)).mpr q)
      obtain ⟨m2, rfl⟩ : ∃ m2, m = m2 + 1 := ⟨m - 1, by omega⟩
      refine px_PW.steps kt_83.2 2 rfl ?_
      refine px_PW.br (fun c1 => ?_) (fun c1 => ?_)
      · have c1 : ¬ ((0 : Int32) = 0) := of_decide_eq_false (px_nt c1)
        exact absurd (rfl : (0 : Int32) = 0) c1
      · have c1 : (0 : Int32) = 0 := of_decide_eq_true (px_nf c1)
        refine px_PW.steps kt_83.2 4 rfl ?_
        refine px_PW.callV kt_83.2 rfl rfl rfl rfl (nb_stands (q := 3) (by decide) _) (by decide) (fun v h1 q => ?_)
        obtain ⟨rfl, rfl⟩ := q
        refine px_PW.steps kt_83.2 1 rfl ?_
        refine px_PW.br (fun c2 => ?_) (fun c2 => ?_)
        · have c2 : (nI k) < 0 ∨ (N 3) ≤ (nI k) := px_b0z (of_decide_eq_true c2)
          have c2 : ¬ (k < M) := fun q => (c2).elim (nI_pos (by omega)) (fun r => by rw [hM3] at r; exact nI_ge q (by omega) r)
          refine px_PW.steps kt_83.2 6 rfl ?_
          rw [zz_run_n (show ¬ (s_ckp M F k = true) by unfold s_ckp; rw [decide_eq_false c2]; exact Bool.noConfusion)] at H
          have e : s_ckr W k = 1 + nI k := if_neg (by omega)
          rw [e] at H
          refine px_PW.steps kt_83.2 3 rfl ?_
          refine px_PW.br (fun c20 => ?_) (fun c20 => ?_)
          · have c20 : (nI W) ≤ ((nI k) + 1) := of_decide_eq_true c20
            exact H _
          · have c20 : ¬ ((nI W) ≤ ((nI k) + 1)) := of_decide_eq_false c20
            refine px_PW.steps kt_83.2 2 rfl ?_
            refine px_PW.br (fun c21 => ?_) (fun c21 => ?_)
            · have c21 : ¬ ((1 + (nI k)) = 0) := of_decide_eq_false (px_nt c21)
              exact H _
            · have c21 : (1 + (nI k)) = 0 := of_decide_eq_true (px_nf c21)
              exact absurd c21 (zz_1k (by omega))
        · have c2 : ¬ ((nI k) < 0 ∨ (N 3) ≤ (nI k)) := px_b0n (of_decide_eq_false c2)
          have c2 : k < M := by rw [hM3] at c2; exact Nat.lt_of_not_le (fun r => c2 (Or.inr (nI_le r (by omega))))
          refine px_PW.steps kt_83.2 4 rfl ?_
          refine px_PW.callV kt_83.2 rfl rfl rfl rfl (nb_getN (q := 3) (L := M) (by decide) hM3 (show M ≤ px_lim 3 from hM6) c2) (by decide) (fun v h1 q => ?_)
          obtain ⟨rfl, rfl⟩ := q
          refine px_PW.steps kt_83.2 4 rfl ?_
          refine px_PW.callV kt_83.2 rfl rfl rfl rfl (nb_getN (q := 8) (L := W) (by decide) hW8 (show W ≤ px_lim 8 from hW24) (show k < W by omega)) (by decide) (fun v h1 q => ?_)
          obtain ⟨rfl, rfl⟩ := q
          refine px_PW.steps kt_83.2 1 rfl ?_
          refine px_PW.br (fun c3 => ?_) (fun c3 => ?_)
          · have c3 : (F 3 k) = (F 8 k) := of_decide_eq_true c3
            refine px_PW.steps kt_83.2 2 rfl ?_
            rw [zz_run_y (show s_ckp M F k = true by unfold s_ckp; rw [decide_eq_true c2, decide_eq_true c3]; rfl)] at H
            have g := c_ck_loop hM3 hM6 hW8 hW24 (Z := Z) (F := F) (Q := Q) m2 (k + 1) (by omega) H
            rw [nI_succ k] at g
            exact g
          · have c3 : ¬ ((F 3 k) = (F 8 k)) := of_decide_eq_false c3
            refine px_PW.steps kt_83.2 6 rfl ?_
            rw [zz_run_n (show ¬ (s_ckp M F k = true) by unfold s_ckp; rw [decide_eq_false c3, Bool.and_false]; exact Bool.noConfusion)] at H
            have e : s_ckr W k = 1 + nI k := if_neg (by omega)
            rw [e] at H
            refine px_PW.steps kt_83.2 3 rfl ?_
            refine px_PW.br (fun c20 => ?_) (fun c20 => ?_)
            · have c20 : (nI W) ≤ ((nI k) + 1) := of_decide_eq_true c20
              exact H _
            · have c20 : ¬ ((nI W) ≤ ((nI k) + 1)) := of_decide_eq_false c20
              refine px_PW.steps kt_83.2 2 rfl ?_
              refine px_PW.br (fun c21 => ?_) (fun c21 => ?_)
              · have c21 : ¬ ((1 + (nI k)) = 0) := of_decide_eq_false (px_nt c21)
                exact H _
              · have c21 : (1 + (nI k)) = 0 := of_decide_eq_true (px_nf c21)
                exact absurd c21 (zz_1k (by omega))
def s_check (M W : Nat) (Z N : Nat → Int32) (F : Nat → Nat → Int32)  : Int32 × (Nat → Int32) × (Nat → Int32) × (Nat → Nat → Int32) := ((s_ckr W (zz_run (s_ckp M F) W 0)), Z, (upd N 8 0), F)
theorem kc_check {Z N : Nat → Int32} {F : Nat → Nat → Int32} (hw : px_cw N) {M W : Nat} (hM3 : N 3 = nI M) (hM6 : M ≤ 6) (hW8 : N 8 = nI W) (hW24 : W ≤ 24)  : px_PM 2 83 [.ref 0] (px_CH Z N F, []) (fun r h' => r = some (.int (s_check M W Z N F).1) ∧ ∃ Z' N' F', px_sc (s_check M W Z N F).2.1 (s_check M W Z N F).2.2.1 (s_check M W Z N F).2.2.2 Z' N' F' ∧ h' = (px_CH Z' N' F', [])) := by
  refine px_PM.start (nL := 4) (code := pc_83) rfl rfl ?_
  refine px_PW.steps kt_83.2 3 rfl ?_
  refine px_PW.callV kt_83.2 rfl rfl rfl rfl (nb_size (q := 8) (by decide)) (by decide) (fun v h1 q => ?_)
  obtain ⟨rfl, rfl⟩ := q
  refine px_PW.steps kt_83.2 5 rfl ?_
  refine px_PW.lc (lv' := [some (.ref 0), some (.int (nI W)), some (.int 0), some (.int (nI 0))]) (by rw [← hW8]; rfl) ?_
  refine c_ck_loop hM3 hM6 hW8 hW24 W 0 (by omega) (fun o3 => ?_)
  refine px_PW.steps kt_83.2 3 rfl ?_
  refine px_PW.callV kt_83.2 rfl rfl rfl rfl (nb_clear (q := 8) (by decide)) (by decide) (fun v h1 q => ?_)
  obtain ⟨rfl, rfl⟩ := q
  refine px_PW.steps kt_83.2 1 rfl ?_
  refine px_PW.ret kt_83.2 rfl rfl ?_
  have E : s_check M W Z N F = ((s_ckr W (zz_run (s_ckp M F) W 0)), Z, (upd N 8 0), F) := rfl
  rw [E]
  exact ⟨rfl, _, _, _, px_sc.rf, rfl⟩
/-- the greatest d from m down that divides both; 1 if there is none above it -/
def zz_cd (x y : Nat) : Nat → Nat
  | 0 => 1
  | d + 1 => if d + 1 ≤ 1 then 1 else if x % (d + 1) = 0 ∧ y % (d + 1) = 0 then d + 1 else zz_cd x y d
theorem c_cd_loop {x y : Nat} (hx : x < 1000) (hy : y < 1000) {h : px_H} {Q : Option Value → px_H → Prop} (H : Q (some (.int (nI (zz_cd x y y)))) h) : ∀ (k : Nat), k < 1000 → zz_cd x y k = zz_cd x y y → px_PW 1 pc_99 Q 2 [some (.int (nI x)), some (.int (nI y)), some (.int (nI k))] [] h
  | k, hk, hE => by
    refine px_PW.steps kt_99.2 3 rfl ?_
    refine px_PW.br (fun c0 => ?_) (fun c0 => ?_)
    · have c0 : (nI k) ≤ 1 := of_decide_eq_true c0
      have c0 : k ≤ 1 := (nI_leI (a := k) (b := 1) (by omega) (by omega)).mp c0
      refine px_PW.steps kt_99.2 1 rfl ?_
      refine px_PW.ret kt_99.2 rfl rfl ?_
      have e : zz_cd x y k = 1 := by
        rcases (show k = 0 ∨ k = 1 by omega) with rfl | rfl <;> rfl
      rw [← hE, e] at H
      exact H
    · have c0 : ¬ ((nI k) ≤ 1) := of_decide_eq_false c0
      have c0 : ¬ (k ≤ 1) := (fun q => c0 ((nI_leI (a := k) (b := 1) (by omega) (by omega)).mpr q))
      obtain ⟨d, hd⟩ : ∃ d, k = d + 1 := ⟨k - 1, by omega⟩
      refine px_PW.steps kt_99.2 2 rfl ?_
      refine px_PW.callS kt_99.2 rfl rfl rfl (cc_rest _ _ _) (by decide) (fun v h1 q => ?_)
      obtain ⟨rfl, rfl⟩ := q
      refine px_PW.steps kt_99.2 1 rfl ?_
      refine px_PW.br (fun c1 => ?_) (fun c1 => ?_)
      · have c1 : ¬ ((i_rem (nI x) (nI k)) = 0) := of_decide_eq_false (px_nt c1)
        have c1 : ¬ (x % k = 0) := by rw [zz_irem (by omega) (by omega) (by omega)] at c1; exact fun q => c1 (by rw [q]; rfl)
        refine px_PW.steps kt_99.2 2 rfl ?_
        have e0 : zz_cd x y k = zz_cd x y d := by subst hd; exact (if_neg (show ¬ (d + 1 ≤ 1) by omega)).trans (if_neg (fun q => c1 q.1))
        have g := c_cd_loop hx hy H d (by omega) (by rw [← hE, e0])
        have e : nI k + -1 = nI d := by rw [hd]; exact zz_dec d
        refine px_PW.lc (lv' := [some (.int (nI x)), some (.int (nI y)), some (.int (nI d))]) (by rw [← e]; rfl) ?_
        exact g
      · have c1 : (i_rem (nI x) (nI k)) = 0 := of_decide_eq_true (px_nf c1)
        have c1 : x % k = 0 := by rw [zz_irem (by omega) (by omega) (by omega)] at c1; exact (nI_eq (b := 0) (by have := Nat.mod_lt x (show 0 < k by omega); omega) (by omega)).mp c1
        refine px_PW.steps kt_99.2 2 rfl ?_
        refine px_PW.callS kt_99.2 rfl rfl rfl (cc_rest _ _ _) (by decide) (fun v h1 q => ?_)
        obtain ⟨rfl, rfl⟩ := q
        refine px_PW.steps kt_99.2 1 rfl ?_
        refine px_PW.br (fun c2 => ?_) (fun c2 => ?_)
        · have c2 : ¬ ((i_rem (nI y) (nI k)) = 0) := of_decide_eq_false (px_nt c2)
          have c2 : ¬ (y % k = 0) := by rw [zz_irem (by omega) (by omega) (by omega)] at c2; exact fun q => c2 (by rw [q]; rfl)
          refine px_PW.steps kt_99.2 2 rfl ?_
          have e0 : zz_cd x y k = zz_cd x y d := by subst hd; exact (if_neg (show ¬ (d + 1 ≤ 1) by omega)).trans (if_neg (fun q => c2 q.2))
          have g := c_cd_loop hx hy H d (by omega) (by rw [← hE, e0])
          have e : nI k + -1 = nI d := by rw [hd]; exact zz_dec d
          refine px_PW.lc (lv' := [some (.int (nI x)), some (.int (nI y)), some (.int (nI d))]) (by rw [← e]; rfl) ?_
          exact g
        · have c2 : (i_rem (nI y) (nI k)) = 0 := of_decide_eq_true (px_nf c2)
          have c2 : y % k = 0 := by rw [zz_irem (by omega) (by omega) (by omega)] at c2; exact (nI_eq (b := 0) (by have := Nat.mod_lt y (show 0 < k by omega); omega) (by omega)).mp c2
          refine px_PW.steps kt_99.2 1 rfl ?_
          refine px_PW.ret kt_99.2 rfl rfl ?_
          have e : zz_cd x y k = k := by subst hd; exact (if_neg (show ¬ (d + 1 ≤ 1) by omega)).trans (if_pos ⟨c1, c2⟩)
          rw [← hE, e] at H
          exact H
theorem cc_cd {x y : Nat} (hx : x < 1000) (hy : y < 1000) (h : px_H) : px_PM 2 99 [.int (nI x), .int (nI y)] h (fun r h' => r = some (.int (nI (zz_cd x y y))) ∧ h' = h) := by
  refine px_PM.start (nL := 3) (code := pc_99) rfl rfl ?_
  refine px_PW.steps kt_99.2 2 rfl ?_
  exact c_cd_loop hx hy ⟨rfl, rfl⟩ y hy rfl
