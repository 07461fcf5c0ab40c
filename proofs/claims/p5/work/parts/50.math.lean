/-! the wall in order: how long its rows are, their first pieces, how many -/
theorem zz_of {x : Int32} {n : Nat} (hn : n < 2000000000) (h : x.toInt = (n : Int)) : x = nI n := Int32.toInt_inj.mp (h.trans (nI_toInt (by omega)).symm)
theorem zz_add {x y : Int32} {a b : Int} (hx : x.toInt = a) (hy : y.toInt = b) (h1 : -2000000000 ≤ a + b) (h2 : a + b ≤ 2000000000) : (x + y).toInt = a + b := by
  rw [Int32.toInt_add, hx, hy]
  exact Int.bmod_eq_of_le (by omega) (by omega)
theorem zz_sbt {x y : Int32} {a b : Int} (hx : x.toInt = a) (hy : y.toInt = b) (h1 : -2000000000 ≤ a - b) (h2 : a - b ≤ 2000000000) : (x - y).toInt = a - b := by
  rw [Int32.toInt_sub, hx, hy]
  exact Int.bmod_eq_of_le (by omega) (by omega)
theorem r_len {f : Nat → Int32} {L r : Nat} (hL : f 0 = nI L) (h1 : 100 ≤ L) (h2 : L ≤ 4000) (k1 : -9 ≤ (f 3).toInt) (k2 : (f 3).toInt ≤ 9) (hr : r < 8) : ∃ e : Nat, 100 ≤ e ∧ e ≤ 4100 ∧ s_mlen f (nI r) = nI e := by
  generalize hK : (f 3).toInt = K at k1 k2
  have hm : (nI r * f 3).toInt = r * K := by
    rw [Int32.toInt_mul, nI_toInt (by omega), hK]
    refine Int.bmod_eq_of_le ?_ ?_ <;> (rcases (show r = 0 ∨ r = 1 ∨ r = 2 ∨ r = 3 ∨ r = 4 ∨ r = 5 ∨ r = 6 ∨ r = 7 by omega) with rfl | rfl | rfl | rfl | rfl | rfl | rfl | rfl <;> omega)
  have hb : -63 ≤ (r : Int) * K ∧ (r : Int) * K ≤ 63 := by
    rcases (show r = 0 ∨ r = 1 ∨ r = 2 ∨ r = 3 ∨ r = 4 ∨ r = 5 ∨ r = 6 ∨ r = 7 by omega) with rfl | rfl | rfl | rfl | rfl | rfl | rfl | rfl <;> omega
  generalize (r : Int) * K = q at hm hb
  have hv : (f 0 + nI r * f 3).toInt = L + q := zz_add (by rw [hL, nI_toInt (by omega)]) hm (by omega) (by omega)
  unfold s_mlen
  by_cases c : (100 : Int32) ≤ f 0 + nI r * f 3
  · rw [if_pos c]
    rw [Int32.le_iff_toInt_le, hv, show (100 : Int32).toInt = 100 from rfl] at c
    exact ⟨((L : Int) + q).toNat, by omega, by omega, zz_of (by omega) (by rw [hv]; omega)⟩
  · rw [if_neg c]
    exact ⟨100, by omega, by omega, rfl⟩
theorem r_fst {f : Nat → Int32} {T S r : Nat} (hT : f 1 = nI T) (hS : f 6 = nI S) (h1 : 50 ≤ T) (h2 : T ≤ 200) (s1 : 1 ≤ S) (s2 : S ≤ T) : ∃ w : Nat, 1 ≤ w ∧ w ≤ T ∧ s_mfst f (nI r) = nI w := by
  have hd : f 1 / 2 = nI (T / 2) := by rw [hT]; exact zz_div (b := 2) (by omega) (by omega)
  unfold s_mfst
  rw [hd, hS, hT, nI_add]
  have e0 : (if nI S ≤ nI T then nI S else nI S - nI T) = nI S := if_pos (nI_le s2 (by omega))
  have e1 : ∃ w : Nat, 1 ≤ w ∧ w ≤ T ∧ (if nI (S + T / 2) ≤ nI T then nI (S + T / 2) else nI (S + T / 2) - nI T) = nI w := by
    by_cases c : S + T / 2 ≤ T
    · exact ⟨S + T / 2, by omega, c, if_pos (nI_le c (by omega))⟩
    · exact ⟨S + T / 2 - T, by omega, by omega, (if_neg (nI_ge (by omega) (by omega))).trans (zz_sub (by omega))⟩
  rw [e0]
  by_cases c5 : f 5 = 1
  · rw [if_pos c5]
    by_cases c2 : nI r - nI r / 2 * 2 = 1
    · rw [if_pos c2]; exact e1
    · rw [if_neg c2]; exact ⟨S, s1, s2, rfl⟩
  · rw [if_neg c5]; exact ⟨S, s1, s2, rfl⟩
/-- of a row so many pieces behind the first begin ahead of a place -/
def r_beh (w T J x : Nat) : Nat := if x ≤ w + J then 0 else (x - w - J - 1) / (T + J) + 1
def r_pcs (e w T J : Nat) : Nat := 1 + r_beh w T J e
theorem r_beg_s (w T J : Nat) : ∀ k : Nat, r_beg w T J (k + 1) = w + J + k * (T + J)
  | 0 => by
    show 0 + (r_wd w T 0 + J) = _
    unfold r_wd
    rw [if_pos rfl]
    omega
  | k + 1 => by
    show r_beg w T J (k + 1) + (r_wd w T (k + 1) + J) = _
    rw [r_beg_s w T J k, show r_wd w T (k + 1) = T from if_neg (by omega), Nat.add_mul]
    omega
/-- a piece behind the first begins ahead of a place, just if it is one of those -/
theorem r_beh_iff {w T J x k : Nat} (hT : 0 < T) : k < r_beh w T J x ↔ r_beg w T J (k + 1) < x := by
  rw [r_beg_s]
  unfold r_beh
  by_cases c : x ≤ w + J
  · rw [if_pos c]
    constructor
    · intro h; omega
    · intro h
      have := Nat.zero_le (k * (T + J))
      omega
  · rw [if_neg c]
    have h1 : k < (x - w - J - 1) / (T + J) + 1 ↔ k * (T + J) ≤ x - w - J - 1 := by
      rw [Nat.lt_succ_iff, Nat.le_div_iff_mul_le (by omega)]
    rw [h1]
    generalize k * (T + J) = q
    omega
theorem r_pcs_lt {e w T J j : Nat} (hT : 0 < T) (he : 0 < e) (h : j < r_pcs e w T J) : r_beg w T J j < e := by
  cases j with
  | zero => exact he
  | succ k => exact (r_beh_iff hT).mp (by unfold r_pcs at h; omega)
theorem r_pcs_ge {e w T J : Nat} (hT : 0 < T) : e ≤ r_beg w T J (r_pcs e w T J) := by
  have h : ¬ (r_beh w T J e < r_beh w T J e) := Nat.lt_irrefl _
  rw [r_beh_iff hT] at h
  have e1 : r_pcs e w T J = r_beh w T J e + 1 := Nat.add_comm _ _
  rw [e1]
  omega
theorem r_beh_le {w T J x : Nat} (hT : 50 ≤ T) (hx : x ≤ 5000) : r_beh w T J x ≤ 101 := by
  unfold r_beh
  split
  · omega
  · have h : (x - w - J - 1) / (T + J) ≤ (x - w - J - 1) / 50 := Nat.div_le_div_left (by omega) (by omega)
    omega
theorem r_pcs_le {e w T J : Nat} (hT : 50 ≤ T) (he : e ≤ 4100) : r_pcs e w T J ≤ 100 := by
  unfold r_pcs r_beh
  split
  · omega
  · have h : (e - w - J - 1) / (T + J) ≤ (e - w - J - 1) / 50 := Nat.div_le_div_left (by omega) (by omega)
    omega
/-- the wall's numbers are in order -/
def g_wall (f : Nat → Int32) : Prop := ∃ L T J R B S : Nat, f 0 = nI L ∧ f 1 = nI T ∧ f 2 = nI J ∧ f 4 = nI R ∧ f 5 = nI B ∧ f 6 = nI S ∧ 100 ≤ L ∧ L ≤ 4000 ∧ 50 ≤ T ∧ T ≤ 200 ∧ J ≤ 9 ∧ 1 ≤ R ∧ R ≤ 8 ∧ B ≤ 1 ∧ 1 ≤ S ∧ S ≤ T ∧ -9 ≤ (f 3).toInt ∧ (f 3).toInt ≤ 9
def fT (f : Nat → Int32) : Nat := (f 1).toNatClampNeg
def fJ (f : Nat → Int32) : Nat := (f 2).toNatClampNeg
def fR (f : Nat → Int32) : Nat := (f 4).toNatClampNeg
def fe (f : Nat → Int32) (r : Nat) : Nat := (s_mlen f (nI r)).toNatClampNeg
def fw (f : Nat → Int32) (r : Nat) : Nat := (s_mfst f (nI r)).toNatClampNeg
def fP (f : Nat → Int32) (r : Nat) : Nat := r_pcs (fe f r) (fw f r) (fT f) (fJ f)
theorem g_TJR {f : Nat → Int32} (h : g_wall f) : (f 1 = nI (fT f) ∧ 50 ≤ fT f ∧ fT f ≤ 200) ∧ (f 2 = nI (fJ f) ∧ fJ f ≤ 9) ∧ (f 4 = nI (fR f) ∧ 1 ≤ fR f ∧ fR f ≤ 8) := by
  obtain ⟨L, T, J, R, B, S, h0, h1, h2, h4, h5, h6, a1, a2, a3, a4, a5, a6, a7, a8, a9, a10, k1, k2⟩ := h
  unfold fT fJ fR
  rw [h1, h2, h4, nI_clamp (by omega), nI_clamp (by omega), nI_clamp (by omega)]
  exact ⟨⟨rfl, a3, a4⟩, ⟨rfl, a5⟩, ⟨rfl, a6, a7⟩⟩
theorem g_row {f : Nat → Int32} (h : g_wall f) {r : Nat} (hr : r < 8) : (s_mlen f (nI r) = nI (fe f r) ∧ 100 ≤ fe f r ∧ fe f r ≤ 4100) ∧ (s_mfst f (nI r) = nI (fw f r) ∧ 1 ≤ fw f r ∧ fw f r ≤ fT f) := by
  have hT := (g_TJR h).1
  obtain ⟨L, T, J, R, B, S, h0, h1, h2, h4, h5, h6, a1, a2, a3, a4, a5, a6, a7, a8, a9, a10, k1, k2⟩ := h
  obtain ⟨e, e1, e2, e3⟩ := r_len h0 a1 a2 k1 k2 hr
  obtain ⟨w, w1, w2, w3⟩ := r_fst (r := r) h1 h6 a3 a4 a9 a10
  have hTT : fT f = T := by unfold fT; rw [h1, nI_clamp (by omega)]
  have he : fe f r = e := by unfold fe; rw [e3, nI_clamp (by omega)]
  have hw : fw f r = w := by unfold fw; rw [w3, nI_clamp (by omega)]
  rw [he, hw, hTT]
  exact ⟨⟨e3, e1, e2⟩, ⟨w3, w1, w2⟩⟩
theorem g_ok {f : Nat → Int32} (h : g_wall f) : r_ok f (fT f) (fJ f) (fR f) (fe f) (fw f) (fP f) := by
  obtain ⟨hT, hJ, hR⟩ := g_TJR h
  refine ⟨hT.1, hJ.1, hR.1, hT.2.2, hJ.2, hR.2.2, fun r hr => ?_⟩
  have hq := g_row h (show r < 8 by omega)
  exact ⟨hq.1.1, hq.2.1, by omega, by omega, r_pcs_le hT.2.1 hq.1.2.2, by unfold fP r_pcs; omega, fun j hj => r_pcs_lt (by omega) (by omega) hj, r_pcs_ge (by omega)⟩
theorem g_start {f : Nat → Int32} (h : g_wall f) {s : Nat} (h1 : 1 ≤ s) (h2 : s ≤ fT f) : g_wall (upd f 6 (nI s)) := by
  have hT := (g_TJR h).1
  obtain ⟨L, T, J, R, B, S, h0, h1', h2', h4, h5, h6, a1, a2, a3, a4, a5, a6, a7, a8, a9, a10, k1, k2⟩ := h
  have hTT : fT f = T := by unfold fT; rw [h1', nI_clamp (by omega)]
  exact ⟨L, T, J, R, B, s, h0, h1', h2', h4, h5, rfl, a1, a2, a3, a4, a5, a6, a7, a8, h1, by omega, k1, k2⟩
theorem g_okS {f : Nat → Int32} (h : g_wall f) : ∀ s : Nat, 1 ≤ s → s ≤ fT f → r_ok (upd f 6 (nI s)) (fT f) (fJ f) (fR f) (fe f) (fw (upd f 6 (nI s))) (fP (upd f 6 (nI s))) := fun s h1 h2 => g_ok (g_start h h1 h2)
