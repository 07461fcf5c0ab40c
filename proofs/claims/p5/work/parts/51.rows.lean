/-! the class's closed forms of a row against the pieces themselves -/
theorem r_bw (w T J : Nat) : ∀ k : Nat, r_beg w T J k + r_wd w T k = w + k * (T + J)
  | 0 => by
    show 0 + r_wd w T 0 = _
    rw [show r_wd w T 0 = w from if_pos rfl]
    omega
  | k + 1 => by
    rw [r_beg_s, show r_wd w T (k + 1) = T from if_neg (by omega), Nat.add_mul]
    omega
/-- a Row of the class holds a row -/
def rw_ok (Z : Nat → Int32) (e w T J : Nat) : Prop := (Z 6 = nI w ∧ Z 7 = nI e ∧ Z 8 = nI T ∧ Z 9 = nI J ∧ Z 10 = nI (r_pcs e w T J)) ∧ 1 ≤ w ∧ w ≤ T ∧ 50 ≤ T ∧ T ≤ 200 ∧ J ≤ 9 ∧ 100 ≤ e ∧ e ≤ 4100
theorem zz_sub1 {x : Int32} {a b : Nat} (hx : x = nI a) (hb : b < 100000) (ha : a < 100000) : (x - nI b).toInt = (a : Int) - b := zz_sbt (by rw [hx, nI_toInt (by omega)]) (nI_toInt (by omega)) (by omega) (by omega)
theorem w_beh_n {Z : Nat → Int32} {w T J x : Nat} (h6 : Z 6 = nI w) (h8 : Z 8 = nI T) (h9 : Z 9 = nI J) (hw : w ≤ 200) (hT : 50 ≤ T) (hT2 : T ≤ 200) (hJ : J ≤ 9) (hx : x ≤ 5100) : w_beh Z (nI x) = nI (r_beh w T J x) := by
  unfold w_beh r_beh
  rw [h6, h8, h9]
  have h1 : (nI x - nI w - nI J).toInt = (x : Int) - w - J := zz_sbt (zz_sub1 rfl (by omega) (by omega)) (nI_toInt (by omega)) (by omega) (by omega)
  have hc : (1 : Int32) ≤ nI x - nI w - nI J ↔ ¬ (x ≤ w + J) := by
    rw [Int32.le_iff_toInt_le, h1, show (1 : Int32).toInt = 1 from rfl]
    omega
  by_cases c : x ≤ w + J
  · rw [if_neg (fun q => hc.mp q c), if_pos c]; rfl
  · rw [if_pos (hc.mpr c), if_neg c]
    have e1 : nI x - nI w - nI J - 1 = nI (x - w - J - 1) := by
      rw [zz_sub (show w ≤ x by omega), zz_sub (show J ≤ x - w by omega), show (1 : Int32) = nI 1 from rfl, zz_sub (by omega)]
    rw [e1, nI_add]
    unfold i_quo
    rw [if_neg (nI_ne0 (by omega) (by omega)), zz_div (by omega) (by omega), show (1 : Int32) = nI 1 from rfl, nI_add, Nat.add_comm 1]
theorem w_beg_n {Z : Nat → Int32} {w T J : Nat} (h6 : Z 6 = nI w) (h8 : Z 8 = nI T) (h9 : Z 9 = nI J) (k : Nat) (hk : k ≤ 200) : w_beg Z (nI k) = nI (r_beg w T J k) := by
  unfold w_beg
  rw [h6, h8, h9]
  cases k with
  | zero => rw [if_neg (show ¬ ((0 : Int32) < nI 0) by decide)]; rfl
  | succ k =>
    rw [if_pos (show (0 : Int32) < nI (k + 1) from nI_lt (a := 0) (by omega) (by omega)), nI_pred, nI_add, nI_add, zz_mul, nI_add, r_beg_s]
theorem w_end_n {Z : Nat → Int32} {e w T J : Nat} (h6 : Z 6 = nI w) (h7 : Z 7 = nI e) (h8 : Z 8 = nI T) (h9 : Z 9 = nI J) (hw : w ≤ 200) (hT2 : T ≤ 200) (hJ : J ≤ 9) (he : e ≤ 5000) (k : Nat) (hk : k ≤ 200) : w_end Z (nI k) = nI (min e (w + k * (T + J))) := by
  unfold w_end
  rw [h6, h7, h8, h9, nI_add, zz_mul, nI_add]
  have hb : k * (T + J) ≤ 200 * 209 := Nat.mul_le_mul hk (by omega)
  unfold i_min
  by_cases c : w + k * (T + J) < e
  · rw [if_pos (nI_lt c (by omega)), show min e (w + k * (T + J)) = w + k * (T + J) by omega]
  · rw [if_neg (nI_nlt (by omega) (by omega)), show min e (w + k * (T + J)) = e by omega]
theorem w_wid_n {Z : Nat → Int32} {e w T J : Nat} (h : rw_ok Z e w T J) {k : Nat} (hk : k < r_pcs e w T J) : w_wid Z (nI k) = r_B e w T J k := by
  obtain ⟨⟨h6, h7, h8, h9, -⟩, b1, b2, b3, b4, b5, b6, b7⟩ := h
  have hP := r_pcs_le (w := w) (J := J) b3 b7
  have hlt := r_pcs_lt (by omega) (by omega) hk
  have hs := r_bw w T J k
  unfold w_wid r_B r_wid
  rw [w_beg_n h6 h8 h9 k (by omega), w_end_n h6 h7 h8 h9 (by omega) b4 b5 (by omega) k (by omega), ← hs]
  by_cases c : r_beg w T J k + r_wd w T k ≤ e
  · rw [if_pos c, show min e (r_beg w T J k + r_wd w T k) = r_beg w T J k + r_wd w T k by omega, zz_sub (by omega), show r_beg w T J k + r_wd w T k - r_beg w T J k = r_wd w T k by omega]
  · rw [if_neg c, show min e (r_beg w T J k + r_wd w T k) = e by omega, zz_sub (by omega)]
theorem rw_last {Z : Nat → Int32} {e w T J : Nat} (h : rw_ok Z e w T J) : Z 10 - 1 = nI (r_pcs e w T J - 1) := by
  rw [h.1.2.2.2.2, show (1 : Int32) = nI 1 from rfl, zz_sub (by unfold r_pcs; omega)]
theorem r_pcs_pos (e w T J : Nat) : 1 ≤ r_pcs e w T J := by unfold r_pcs; omega
/-- a piece that is neither the first nor the last is a TILE -/
theorem r_mid {e w T J j : Nat} (hT : 0 < T) (he : 0 < e) (h0 : 0 < j) (h : j + 1 < r_pcs e w T J) : r_wid e w T J j = T := by
  have h1 := r_pcs_lt (T := T) (by omega) he h
  obtain ⟨k, rfl⟩ : ∃ k, j = k + 1 := ⟨j - 1, by omega⟩
  have hw : r_wd w T (k + 1) = T := if_neg (by omega)
  have h2 : r_beg w T J (k + 1 + 1) = r_beg w T J (k + 1) + (r_wd w T (k + 1) + J) := rfl
  unfold r_wid
  rw [if_pos (by omega), hw]
theorem r_wid_le {e w T J k : Nat} (hw : w ≤ T) : r_wid e w T J k ≤ T := by
  unfold r_wid
  have h : r_wd w T k ≤ T := by unfold r_wd; split <;> omega
  split <;> omega
theorem zz_cnt_snoc (p : Nat → Bool) : ∀ (m k n : Nat), zz_cnt p (m + 1) k n = if p (k + m) = true then zz_cnt p m k n + 1 else zz_cnt p m k n
  | 0, k, n => rfl
  | m + 1, k, n => by
    show zz_cnt p (m + 1) (k + 1) (if p k = true then n + 1 else n) = _
    rw [zz_cnt_snoc p m (k + 1), show k + 1 + m = k + (m + 1) by omega]
    rfl
theorem zz_cnt_none {p : Nat → Bool} : ∀ (m k n : Nat), (∀ j : Nat, k ≤ j → j < k + m → p j = false) → zz_cnt p m k n = n
  | 0, _, _, _ => rfl
  | m + 1, k, n, h => by
    show zz_cnt p m (k + 1) (if p k = true then n + 1 else n) = n
    rw [h k (Nat.le_refl k) (by omega), if_neg (by decide)]
    exact zz_cnt_none m (k + 1) n (fun j h1 h2 => h j (by omega) (by omega))
theorem zz_edges {p : Nat → Bool} {P : Nat} (hP : 1 ≤ P) (hm : ∀ j : Nat, 0 < j → j + 1 < P → p j = false) : zz_cnt p P 0 0 = (if p 0 = true then 1 else 0) + (if p (P - 1) = true ∧ 1 < P then 1 else 0) := by
  obtain ⟨m, rfl⟩ : ∃ m, P = m + 1 := ⟨P - 1, by omega⟩
  cases m with
  | zero =>
    rw [if_neg (show ¬ (p (0 + 1 - 1) = true ∧ 1 < 0 + 1) from fun q => absurd q.2 (by omega)), Nat.add_zero]
    rfl
  | succ m =>
    rw [zz_cnt_snoc, show 0 + (m + 1) = m + 1 by omega, show m + 1 + 1 - 1 = m + 1 by omega]
    have e : zz_cnt p (m + 1) 0 0 = if p 0 = true then 1 else 0 := by
      show zz_cnt p m 1 (if p 0 = true then 1 else 0) = _
      exact zz_cnt_none m 1 _ (fun j h1 h2 => hm j (by omega) (by omega))
    rw [e]
    by_cases c : p (m + 1) = true
    · rw [if_pos c, if_pos (show p (m + 1) = true ∧ 1 < m + 1 + 1 from ⟨c, by omega⟩)]
    · rw [if_neg c, if_neg (show ¬ (p (m + 1) = true ∧ 1 < m + 1 + 1) from fun q => c q.1), Nat.add_zero]
theorem w_ofE_n {Z : Nat → Int32} {P : Nat} (h10 : Z 10 = nI P) (hP : P ≤ 100) {a b : Int32} {p q : Bool} (ha : a = if p = true then 1 else 0) (hb : b = if q = true then 1 else 0) : w_ofE Z a b = nI ((if p = true then 1 else 0) + (if q = true ∧ 1 < P then 1 else 0)) := by
  unfold w_ofE
  rw [h10, ha, hb]
  have e1 : nI P ≤ 1 ↔ P ≤ 1 := nI_leI (b := 1) (by omega) (by omega)
  by_cases c : P ≤ 1
  · rw [if_pos (show (if q = true then (1 : Int32) else 0) = 0 ∨ nI P ≤ 1 from Or.inr (e1.mpr c)), if_neg (show ¬ (q = true ∧ 1 < P) from fun r => by omega)]
    cases p <;> rfl
  · have c2 : ¬ (nI P ≤ 1) := fun r => c (e1.mp r)
    cases q with
    | true =>
      rw [if_neg (show ¬ ((if true = true then (1 : Int32) else 0) = 0 ∨ nI P ≤ 1) from fun r => r.elim (by decide) c2), if_pos (show true = true ∧ 1 < P from ⟨rfl, by omega⟩)]
      cases p <;> rfl
    | false =>
      rw [if_pos (show (if false = true then (1 : Int32) else 0) = 0 ∨ nI P ≤ 1 from Or.inl rfl), if_neg (show ¬ (false = true ∧ 1 < P) from fun r => absurd r.1 (by decide))]
      cases p <;> rfl
theorem w_cuts_n {Z : Nat → Int32} {e w T J : Nat} (h : rw_ok Z e w T J) : w_cuts Z = nI (r_cuts (nI T) (r_B e w T J) (r_pcs e w T J)) := by
  have hP := r_pcs_le (w := w) (J := J) h.2.2.2.1 h.2.2.2.2.2.2.2
  have hP1 := r_pcs_pos e w T J
  have hT := h.2.2.2.1
  have hT2 := h.2.2.2.2.1
  have he := h.2.2.2.2.2.2.1
  unfold w_cuts r_cuts
  rw [rw_last h, show (0 : Int32) = nI 0 from rfl, w_wid_n h (by omega), w_wid_n h (by omega)]
  rw [zz_edges hP1 (fun j h0 h1 => decide_eq_false (fun q => q (by unfold r_B; rw [r_mid (by omega) (by omega) h0 h1]; exact nI_le (Nat.le_refl T) (by omega))))]
  have ec : ∀ x : Int32, w_cut Z x = if decide (¬ (nI T ≤ x)) = true then 1 else 0 := by
    intro x
    unfold w_cut
    rw [h.1.2.2.1]
    by_cases c : nI T ≤ x
    · rw [if_pos c, if_neg (fun q => absurd c (of_decide_eq_true q))]
    · rw [if_neg c, if_pos (decide_eq_true c)]
  exact w_ofE_n h.1.2.2.2.2 hP (ec _) (ec _)
theorem w_halves_n {Z : Nat → Int32} {e w T J : Nat} (h : rw_ok Z e w T J) : w_halves Z = nI (r_halves (nI T) (r_B e w T J) (r_pcs e w T J)) := by
  have hP := r_pcs_le (w := w) (J := J) h.2.2.2.1 h.2.2.2.2.2.2.2
  have hP1 := r_pcs_pos e w T J
  have hT := h.2.2.2.1
  have hT2 := h.2.2.2.2.1
  have he := h.2.2.2.2.2.2.1
  unfold w_halves r_halves
  rw [rw_last h, show (0 : Int32) = nI 0 from rfl, w_wid_n h (by omega), w_wid_n h (by omega)]
  rw [zz_edges hP1 (fun j h0 h1 => decide_eq_false (fun q => q (by unfold r_B; rw [r_mid (by omega) (by omega) h0 h1, show (2 : Int32) = nI 2 from rfl, zz_mul, show (3 : Int32) = nI 3 from rfl, nI_add]; exact nI_lt (by omega) (by omega))))]
  have ec : ∀ x : Int32, w_half Z x = if decide (¬ (nI T < 2 * x + 3)) = true then 1 else 0 := by
    intro x
    unfold w_half
    rw [h.1.2.2.1]
    by_cases c : nI T < 2 * x + 3
    · rw [if_pos c, if_neg (fun q => absurd c (of_decide_eq_true q))]
    · rw [if_neg c, if_pos (decide_eq_true c)]
  exact w_ofE_n h.1.2.2.2.2 hP (ec _) (ec _)
theorem zz_mn_snoc (g : Nat → Int32) : ∀ (m k : Nat) (a : Int32), zz_mn g (m + 1) k a = if zz_mn g m k a ≤ g (k + m) then zz_mn g m k a else g (k + m)
  | 0, _, _ => rfl
  | m + 1, k, a => by
    show zz_mn g (m + 1) (k + 1) (if a ≤ g k then a else g k) = _
    rw [zz_mn_snoc g m (k + 1), show k + 1 + m = k + (m + 1) by omega]
    rfl
theorem zz_mn_id {g : Nat → Int32} : ∀ (m k : Nat) (a : Int32), (∀ j : Nat, k ≤ j → j < k + m → a ≤ g j) → zz_mn g m k a = a
  | 0, _, _, _ => rfl
  | m + 1, k, a, h => by
    show zz_mn g m (k + 1) (if a ≤ g k then a else g k) = a
    rw [if_pos (h k (Nat.le_refl k) (by omega))]
    exact zz_mn_id m (k + 1) a (fun j h1 h2 => h j (by omega) (by omega))
theorem w_nar_n {Z : Nat → Int32} {e w T J : Nat} (h : rw_ok Z e w T J) : w_nar Z = r_nar (r_B e w T J) (r_pcs e w T J) := by
  have hP1 := r_pcs_pos e w T J
  have hT := h.2.2.2.1
  have hT2 := h.2.2.2.2.1
  have he := h.2.2.2.2.2.2.1
  have hwT := h.2.2.1
  unfold w_nar r_nar
  rw [rw_last h, show (0 : Int32) = nI 0 from rfl, w_wid_n h (by omega), w_wid_n h (by omega)]
  generalize hPn : r_pcs e w T J = P at hP1
  obtain ⟨m, rfl⟩ : ∃ m, P = m + 1 := ⟨P - 1, by omega⟩
  show i_min _ _ = zz_mn _ m 1 _
  rw [show m + 1 - 1 = m by omega]
  cases m with
  | zero =>
    show i_min (r_B e w T J 0) (r_B e w T J 0) = r_B e w T J 0
    unfold i_min
    split <;> rfl
  | succ m =>
    rw [zz_mn_snoc, zz_mn_id m 1 (r_B e w T J 0) (fun j h1 h2 => by
      unfold r_B
      rw [r_mid (by omega) (by omega) (show 0 < j by omega) (by omega)]
      exact nI_le (r_wid_le hwT) (by omega)), show 1 + m = m + 1 by omega]
    unfold i_min
    by_cases c : r_B e w T J (m + 1) < r_B e w T J 0
    · rw [if_pos c, if_neg (Int32.not_le.mpr c)]
    · rw [if_neg c, if_pos (Int32.not_lt.mp c)]
/-- the class lays the row that the reference lays -/
theorem c_len_m {F : Nat → Nat → Int32} {f : Nat → Int32} (hF : ∀ i : Nat, i < 7 → F 0 i = f i) (k : Int32) : c_len F k = s_mlen f k := by
  unfold c_len s_mlen i_max
  rw [hF 0 (by omega), hF 3 (by omega)]
  by_cases c : (100 : Int32) < f 0 + k * f 3
  · rw [if_pos c, if_pos (Int32.le_of_lt c)]
  · rw [if_neg c]
    by_cases c2 : (100 : Int32) ≤ f 0 + k * f 3
    · rw [if_pos c2]
      exact Int32.le_antisymm c2 (Int32.not_lt.mp c)
    · rw [if_neg c2]
theorem c_first_m {F : Nat → Nat → Int32} {f : Nat → Int32} (hF : ∀ i : Nat, i < 7 → F 0 i = f i) (hg : g_wall f) {r s : Nat} (hr : r < 8) (h1 : 1 ≤ s) (h2 : s ≤ fT f) : c_first F (nI r) (nI s) = s_mfst (upd f 6 (nI s)) (nI r) := by
  have hT := (g_TJR hg).1
  obtain ⟨L, T, J, R, B, S, h0, h1', h2', h4, h5, h6, a1, a2, a3, a4, a5, a6, a7, a8, a9, a10, k1, k2⟩ := hg
  unfold c_first s_mfst
  rw [hF 5 (by omega), hF 1 (by omega)]
  show _ = (if f 5 = 1 then (if nI r - nI r / 2 * 2 = 1 then (if nI s + f 1 / 2 ≤ f 1 then nI s + f 1 / 2 else nI s + f 1 / 2 - f 1) else (if nI s ≤ f 1 then nI s else nI s - f 1)) else (if nI s ≤ f 1 then nI s else nI s - f 1))
  have es : (if nI s ≤ f 1 then nI s else nI s - f 1) = nI s := if_pos (by rw [hT.1]; exact nI_le h2 (by omega))
  rw [es, show nI r - nI r / 2 * 2 = nI (r % 2) from zz_rem (b := 2) (by omega) (by omega), h5]
  rcases (show B = 0 ∨ B = 1 by omega) with rfl | rfl
  · rw [if_pos (show nI 0 = 0 ∨ nI (r % 2) = 0 from Or.inl rfl), if_neg (show ¬ (nI 0 = 1) by decide)]
  · rcases (show r % 2 = 0 ∨ r % 2 = 1 by omega) with e | e
    · rw [e, if_pos (show nI 1 = 0 ∨ nI 0 = 0 from Or.inr rfl), if_pos (show nI 1 = 1 from rfl), if_neg (show ¬ (nI 0 = 1) by decide)]
    · rw [e, if_neg (show ¬ (nI 1 = 0 ∨ nI 1 = 0) by decide), if_pos (show nI 1 = 1 from rfl), if_pos (show nI 1 = 1 from rfl)]
theorem c_lay_ok {F : Nat → Nat → Int32} {f : Nat → Int32} (hF : ∀ i : Nat, i < 7 → F 0 i = f i) (hg : g_wall f) (Z : Nat → Int32) {r s : Nat} (hr : r < 8) (h1 : 1 ≤ s) (h2 : s ≤ fT f) : rw_ok (c_lay Z F (nI r) (nI s)) (fe f r) (fw (upd f 6 (nI s)) r) (fT f) (fJ f) := by
  obtain ⟨hT, hJ, hR⟩ := g_TJR hg
  have hq := g_row hg hr
  have hs := (g_row (g_start hg h1 h2) hr).2
  have e6 : c_lay Z F (nI r) (nI s) 6 = nI (fw (upd f 6 (nI s)) r) := by
    show c_first F (nI r) (nI s) = _
    rw [c_first_m hF hg hr h1 h2]
    exact hs.1
  have e7 : c_lay Z F (nI r) (nI s) 7 = nI (fe f r) := by
    show c_len F (nI r) = _
    rw [c_len_m hF]
    exact hq.1.1
  have e8 : c_lay Z F (nI r) (nI s) 8 = nI (fT f) := (hF 1 (by omega)).trans hT.1
  have e9 : c_lay Z F (nI r) (nI s) 9 = nI (fJ f) := (hF 2 (by omega)).trans hJ.1
  refine ⟨⟨e6, e7, e8, e9, ?_⟩, hs.2.1, hs.2.2, hT.2.1, hT.2.2, hJ.2, hq.1.2.1, hq.1.2.2⟩
  show 1 + w_beh (w_lay4 Z (c_first F (nI r) (nI s)) (c_len F (nI r)) (F 0 1) (F 0 2)) (c_len F (nI r)) = _
  have hs2 : fw (upd f 6 (nI s)) r ≤ fT f := hs.2.2
  have e7' : c_len F (nI r) = nI (fe f r) := e7
  generalize hZ : w_lay4 Z (c_first F (nI r) (nI s)) (c_len F (nI r)) (F 0 1) (F 0 2) = Z4
  have e6 : Z4 6 = nI (fw (upd f 6 (nI s)) r) := by rw [← hZ]; exact e6
  have e8 : Z4 8 = nI (fT f) := by rw [← hZ]; exact e8
  have e9 : Z4 9 = nI (fJ f) := by rw [← hZ]; exact e9
  rw [e7', w_beh_n (w := fw (upd f 6 (nI s)) r) (T := fT f) (J := fJ f) e6 e8 e9 (by omega) hT.2.1 hT.2.2 hJ.2 (by omega), show (1 : Int32) = nI 1 from rfl, nI_add]
  rfl
