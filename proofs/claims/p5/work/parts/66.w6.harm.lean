/-! HARM of a THING on a row: closed forms against the pieces (66.w6: by hand) -/
theorem h_cnt (x y : Nat) : ∀ n : Nat, zz_cnt (fun k => decide (k < x ∧ ¬ (k < y))) n 0 0 = min n x - min n y
  | 0 => by rw [Nat.zero_min, Nat.zero_min]; rfl
  | n + 1 => by
    rw [zz_cnt_snoc, h_cnt x y n]
    by_cases c : 0 + n < x ∧ ¬ (0 + n < y)
    · rw [if_pos (decide_eq_true c)]; omega
    · rw [if_neg (fun q => c (of_decide_eq_true q))]; omega
theorem h_imin {a b : Nat} (ha : a < 100000000) (hb : b < 100000000) : i_min (nI a) (nI b) = nI (min a b) := by
  unfold i_min
  by_cases c : b < a
  · rw [if_pos (nI_lt c (by omega)), show min a b = b by omega]
  · rw [if_neg (nI_nlt (by omega) (by omega)), show min a b = a by omega]
/-- of a row so many pieces end not behind a place -/
def h_enb (e w T J a : Nat) : Nat := if a < e then (if w ≤ a then 1 + (a - w) / (T + J) else 0) else r_pcs e w T J
theorem h_end {e w T J k : Nat} (hT : 0 < T) (he : 0 < e) (hk : k < r_pcs e w T J) : r_beg w T J k + r_wid e w T J k = min e (w + k * (T + J)) := by
  have h1 := r_pcs_lt hT he hk
  have h2 := r_bw w T J k
  unfold r_wid
  split <;> omega
theorem h_enb_iff {e w T J a k : Nat} (hT : 0 < T) (he : 0 < e) (hk : k < r_pcs e w T J) : r_beg w T J k + r_wid e w T J k ≤ a ↔ k < h_enb e w T J a := by
  rw [h_end hT he hk]
  unfold h_enb
  by_cases c : a < e
  · rw [if_pos c]
    by_cases c2 : w ≤ a
    · rw [if_pos c2]
      have h1 : k < 1 + (a - w) / (T + J) ↔ k * (T + J) ≤ a - w := by
        rw [Nat.add_comm, Nat.lt_succ_iff, Nat.le_div_iff_mul_le (by omega)]
      rw [h1]
      generalize k * (T + J) = q
      omega
    · rw [if_neg c2]
      generalize k * (T + J) = q
      omega
  · rw [if_neg c]
    generalize k * (T + J) = q
    omega
theorem h_enb_le {e w T J a : Nat} (hT : 0 < T) : h_enb e w T J a ≤ r_pcs e w T J := by
  unfold h_enb
  split
  · split
    · have h1 : (a - w) / (T + J) * (T + J) ≤ a - w := Nat.div_mul_le_self _ _
      generalize (a - w) / (T + J) = k at h1 ⊢
      cases k with
      | zero => unfold r_pcs; omega
      | succ k =>
        have h2 : k < r_beh w T J e := (r_beh_iff hT).mpr (by
          rw [r_beg_s]
          rw [Nat.add_mul] at h1
          omega)
        unfold r_pcs
        omega
    · omega
  · exact Nat.le_refl _
theorem h_beg_b {w T J k b : Nat} (hT : 0 < T) (hb : 1 ≤ b) : r_beg w T J k < b ↔ k < 1 + r_beh w T J b := by
  cases k with
  | zero =>
    show 0 < b ↔ _
    omega
  | succ k =>
    rw [← r_beh_iff hT]
    omega
theorem h_AB (e w T J k : Nat) : r_A w T J k + r_B e w T J k = nI (r_beg w T J k + r_wid e w T J k) := nI_add _ _
theorem h_jo {e w T J a b : Nat} (hT : 0 < T) (he : 0 < e) (he2 : e ≤ 5000) (ha : a ≤ 5000) (hb : b ≤ 5000) : r_jo (r_A w T J) (r_B e w T J) (r_pcs e w T J) (nI a) (nI b) = nI (min (r_pcs e w T J - 1) (r_beh w T J (b + J + 1)) - min (r_pcs e w T J - 1) (r_beh w T J a)) := by
  unfold r_jo
  refine congrArg nI ?_
  rw [← h_cnt]
  refine zz_cnt_congr _ _ _ (fun j _ hj => ?_)
  have hj1 : j + 1 < r_pcs e w T J := by omega
  have h1 := r_pcs_lt hT he hj1
  have h2 := h_end hT he (show j < r_pcs e w T J by omega)
  have h3 := r_beg_s w T J j
  refine decide_eq_decide.mpr ?_
  rw [h_AB, show r_A w T J (j + 1) = nI (r_beg w T J (j + 1)) from rfl, nI_ltI (by omega) (by omega), nI_ltI (by omega) (by omega), r_beh_iff hT, r_beh_iff hT]
  generalize j * (T + J) = q at h2 h3
  omega
theorem h_to {e w T J a b : Nat} (hT : 0 < T) (he : 0 < e) (he2 : e ≤ 5000) (ha : a ≤ 5000) (hb1 : 1 ≤ b) (hb : b ≤ 5000) : r_to (r_A w T J) (r_B e w T J) (r_pcs e w T J) (nI a) (nI b) = nI (min (r_pcs e w T J) (1 + r_beh w T J b) - h_enb e w T J a) := by
  unfold r_to
  refine congrArg nI ?_
  have hE := h_enb_le (e := e) (w := w) (J := J) (a := a) hT
  rw [show min (r_pcs e w T J) (1 + r_beh w T J b) - h_enb e w T J a = min (r_pcs e w T J) (1 + r_beh w T J b) - min (r_pcs e w T J) (h_enb e w T J a) by omega, ← h_cnt]
  refine zz_cnt_congr _ _ _ (fun j _ hj => ?_)
  have hj1 : j < r_pcs e w T J := by omega
  have h1 := r_pcs_lt hT he hj1
  have h2 := h_end hT he hj1
  refine decide_eq_decide.mpr ?_
  rw [h_AB, show r_A w T J j = nI (r_beg w T J j) from rfl, nI_leI (by omega) (by omega), nI_leI (by omega) (by omega), ← h_beg_b hT hb1, ← h_enb_iff hT he hj1]
  omega
theorem h_hi {Z : Nat → Int32} {e w T J a b : Nat} (h : rw_ok Z e w T J) : r_hi (nI T) (r_A w T J) (r_B e w T J) (r_pcs e w T J) (nI a) (nI b) = w_ofE Z (w_hid Z 0 (nI a) (nI b)) (w_hid Z (Z 10 - 1) (nI a) (nI b)) := by
  obtain ⟨⟨h6, h7, h8, h9, h10⟩, b1, b2, b3, b4, b5, b6, b7⟩ := id h
  have hP := r_pcs_le (w := w) (J := J) b3 b7
  have hP1 := r_pcs_pos e w T J
  have key : ∀ k : Nat, k < r_pcs e w T J → w_hid Z (nI k) (nI a) (nI b) = if (decide (¬ (nI T ≤ r_B e w T J k) ∧ ¬ (r_A w T J k < nI a) ∧ ¬ (nI b < r_A w T J k + r_B e w T J k))) = true then 1 else 0 := by
    intro k hk
    unfold w_hid w_cut
    rw [w_wid_n h hk, w_beg_n h6 h8 h9 k (by omega), w_end_n h6 h7 h8 h9 (by omega) b4 b5 (by omega) k (by omega), ← h_end (by omega) (by omega) hk, h8, h_AB]
    show (if (if nI T ≤ r_B e w T J k then (0 : Int32) else 1) = 0 ∨ r_A w T J k < nI a ∨ nI b < nI (r_beg w T J k + r_wid e w T J k) then (0 : Int32) else 1) = _
    by_cases c1 : nI T ≤ r_B e w T J k
    · rw [if_pos c1, if_pos (Or.inl rfl), if_neg (fun q => (of_decide_eq_true q).1 c1)]
    · rw [if_neg c1]
      by_cases c2 : r_A w T J k < nI a
      · rw [if_pos (Or.inr (Or.inl c2)), if_neg (fun q => (of_decide_eq_true q).2.1 c2)]
      · by_cases c3 : nI b < nI (r_beg w T J k + r_wid e w T J k)
        · rw [if_pos (Or.inr (Or.inr c3)), if_neg (fun q => (of_decide_eq_true q).2.2 c3)]
        · rw [if_neg (fun q => q.elim (fun q => absurd q (by decide)) (fun q => q.elim c2 c3)), if_pos (decide_eq_true ⟨c1, c2, c3⟩)]
  rw [rw_last h, show (0 : Int32) = nI 0 from rfl, w_ofE_n h10 hP (key 0 (by omega)) (key (r_pcs e w T J - 1) (by omega))]
  unfold r_hi
  rw [zz_edges hP1 (fun j h0 h1 => ?_)]
  refine decide_eq_false (fun q => q.1 ?_)
  rw [show r_B e w T J j = nI (r_wid e w T J j) from rfl, r_mid (by omega) (by omega) h0 h1]
  exact nI_le (Nat.le_refl T) (by omega)
def h_ap (x y : Nat) : Nat := if y ≤ x then x - y else y - x
theorem s_ap_n {x y : Nat} (hx : x < 100000) (hy : y < 100000) : s_ap (nI x) (nI y) = nI (h_ap x y) := by
  unfold s_ap h_ap
  by_cases c : y ≤ x
  · rw [if_pos (nI_le c (by omega)), if_pos c, zz_sub c]
  · rw [if_neg (nI_ge (by omega) (by omega)), if_neg c, zz_sub (by omega)]
/-- of places that grow the nearest one -/
def h_nr (s : Nat → Nat) (P n x : Nat) : Nat := if P ≤ n then x - s (n - 1) else if n = 0 then s 0 - x else min (x - s (n - 1)) (s n - x)
theorem h_near {s : Nat → Nat} {P x n : Nat} (hP : 1 ≤ P) (hm : ∀ j k : Nat, j ≤ k → k < P → s j ≤ s k) (h1 : n ≤ P) (h2 : 1 ≤ n → s (n - 1) ≤ x) (h3 : n < P → x ≤ s n) : (∀ j : Nat, j < P → h_nr s P n x ≤ h_ap (s j) x) ∧ ∃ j : Nat, j < P ∧ h_nr s P n x = h_ap (s j) x := by
  unfold h_nr h_ap
  constructor
  · intro j hj
    by_cases c : j < n
    · have k1 := hm j (n - 1) (by omega) (by omega)
      have k2 := h2 (by omega)
      repeat' split
      all_goals omega
    · have k1 := hm n j (by omega) hj
      have k2 := h3 (by omega)
      have k3 := hm 0 j (by omega) hj
      by_cases c0 : n = 0
      · subst c0
        repeat' split
        all_goals omega
      · have k4 := h2 (by omega)
        repeat' split
        all_goals omega
  · by_cases c : P ≤ n
    · have k2 := h2 (by omega)
      refine ⟨n - 1, by omega, ?_⟩
      rw [if_pos c]
      split <;> omega
    · rw [if_neg c]
      have k3 := h3 (by omega)
      by_cases c0 : n = 0
      · subst c0
        refine ⟨0, by omega, ?_⟩
        rw [if_pos rfl, if_pos k3]
      · have k2 := h2 (by omega)
        rw [if_neg c0]
        by_cases cm : x - s (n - 1) ≤ s n - x
        · refine ⟨n - 1, by omega, ?_⟩
          split <;> omega
        · refine ⟨n, by omega, ?_⟩
          split <;> omega
def h_fold (d1 d2 : Nat → Nat) : Nat → Nat → Nat → Nat
  | 0, _, a => a
  | n + 1, k, a => h_fold d1 d2 n (k + 1) (min (min a (d1 k)) (d2 k))
theorem h_fold_min {d1 d2 : Nat → Nat} {m : Nat} : ∀ (n k a : Nat), (∀ j : Nat, k ≤ j → j < k + n → m ≤ d1 j ∧ m ≤ d2 j) → m ≤ a → (m = a ∨ ∃ j : Nat, k ≤ j ∧ j < k + n ∧ (m = d1 j ∨ m = d2 j)) → h_fold d1 d2 n k a = m
  | 0, k, a, _, _, h3 => by
    rcases h3 with h3 | ⟨j, h4, h5, -⟩
    · exact h3.symm
    · omega
  | n + 1, k, a, h1, h2, h3 => by
    have hk := h1 k (Nat.le_refl k) (by omega)
    refine h_fold_min n (k + 1) _ (fun j h4 h5 => h1 j (by omega) (by omega)) (by omega) ?_
    rcases h3 with h3 | ⟨j, h4, h5, h6⟩
    · exact Or.inl (by omega)
    · rcases Nat.eq_or_lt_of_le h4 with rfl | h4
      · exact Or.inl (by omega)
      · exact Or.inr ⟨j, h4, by omega, h6⟩
theorem zz_gp_n {A B : Nat → Int32} {f t : Int32} {d1 d2 : Nat → Nat} {P : Nat} (h : ∀ k : Nat, k < P → (s_ap (A k) f = nI (d1 k) ∧ d1 k < 100000) ∧ s_ap (A k + B k) t = nI (d2 k) ∧ d2 k < 100000) : ∀ (n k a : Nat), k + n = P → a < 100000 → zz_gp A B f t n k (nI a) = nI (h_fold d1 d2 n k a)
  | 0, _, _, _, _ => rfl
  | n + 1, k, a, hk, ha => by
    obtain ⟨⟨e1, l1⟩, e2, l2⟩ := h k (by omega)
    show zz_gp A B f t n (k + 1) (s_gp1 (nI a) (s_ap (A k) f) (s_ap (A k + B k) t)) = nI (h_fold d1 d2 n (k + 1) (min (min a (d1 k)) (d2 k)))
    have em : s_gp1 (nI a) (s_ap (A k) f) (s_ap (A k + B k) t) = nI (min (min a (d1 k)) (d2 k)) := by
      rw [e1, e2]
      unfold s_gp1
      have m1 : (if nI a ≤ nI (d1 k) then nI a else nI (d1 k)) = nI (min a (d1 k)) := by
        by_cases c : a ≤ d1 k
        · rw [if_pos (nI_le c (by omega)), show min a (d1 k) = a by omega]
        · rw [if_neg (nI_ge (by omega) (by omega)), show min a (d1 k) = d1 k by omega]
      rw [m1]
      by_cases c : min a (d1 k) ≤ d2 k
      · rw [if_pos (nI_le c (by omega)), show min (min a (d1 k)) (d2 k) = min a (d1 k) by omega]
      · rw [if_neg (nI_ge (by omega) (by omega)), show min (min a (d1 k)) (d2 k) = d2 k by omega]
    rw [em]
    exact zz_gp_n h n (k + 1) _ (by omega) (by omega)
theorem h_beg_mono (w T J : Nat) {j : Nat} : ∀ k : Nat, j ≤ k → r_beg w T J j ≤ r_beg w T J k
  | 0, h => by
    obtain rfl : j = 0 := by omega
    exact Nat.le_refl _
  | k + 1, h => by
    rcases Nat.eq_or_lt_of_le h with rfl | h
    · exact Nat.le_refl _
    · have g := h_beg_mono w T J k (Nat.le_of_lt_succ h)
      show _ ≤ r_beg w T J k + (r_wd w T k + J)
      omega
theorem h_end_mono {e w T J j k : Nat} (hT : 0 < T) (he : 0 < e) (h : j ≤ k) (hk : k < r_pcs e w T J) : r_beg w T J j + r_wid e w T J j ≤ r_beg w T J k + r_wid e w T J k := by
  rw [h_end hT he (by omega), h_end hT he hk]
  have g := Nat.mul_le_mul_right (T + J) h
  generalize j * (T + J) = p at g ⊢
  generalize k * (T + J) = q at g ⊢
  omega
/-- the gap -/
theorem h_ga {Z : Nat → Int32} {e w T J a b : Nat} (h : rw_ok Z e w T J) (ha : a ≤ 4000) (hb1 : 1 ≤ b) (hb : b ≤ 4999) : i_min (w_gb Z (1 + i_min (Z 10 - 1) (w_beh Z (nI a))) (nI a)) (w_ge Z (w_enb Z (nI b)) (nI b)) = r_ga (r_A w T J) (r_B e w T J) (r_pcs e w T J) (nI a) (nI b) := by
  obtain ⟨⟨h6, h7, h8, h9, h10⟩, b1, b2, b3, b4, b5, b6, b7⟩ := id h
  have hT : 0 < T := by omega
  have he : 0 < e := by omega
  have hP := r_pcs_le (w := w) (J := J) b3 b7
  have hP1 := r_pcs_pos e w T J
  have hba := r_beh_le (w := w) (J := J) (x := a) b3 (by omega)
  have hE := h_enb_le (e := e) (w := w) (J := J) (a := b) hT
  have hbe : ∀ k : Nat, k < r_pcs e w T J → r_beg w T J k < e := fun k hk => r_pcs_lt hT he hk
  have hen : ∀ k : Nat, k < r_pcs e w T J → r_beg w T J k + r_wid e w T J k ≤ e := fun k hk => by
    rw [h_end hT he hk]
    generalize k * (T + J) = q
    omega
  -- the numbers of pieces
  have e1 : i_min (Z 10 - 1) (w_beh Z (nI a)) = nI (min (r_pcs e w T J - 1) (r_beh w T J a)) := by
    rw [rw_last h, w_beh_n h6 h8 h9 (by omega) b3 b4 b5 (by omega), h_imin (by omega) (by omega)]
  obtain ⟨n1, hn1⟩ : ∃ n1, n1 = 1 + min (r_pcs e w T J - 1) (r_beh w T J a) := ⟨_, rfl⟩
  have e2 : (1 : Int32) + nI (min (r_pcs e w T J - 1) (r_beh w T J a)) = nI n1 := by rw [hn1]; exact nI_add 1 _
  have u3 : r_beg w T J (n1 - 1) ≤ a := by
    rcases Nat.eq_zero_or_pos (n1 - 1) with q | q
    · rw [q]; exact Nat.zero_le a
    · have g := (r_beh_iff (w := w) (T := T) (J := J) (x := a) (k := n1 - 1 - 1) hT).mp (by omega)
      rw [show n1 - 1 - 1 + 1 = n1 - 1 by omega] at g
      omega
  have u4 : n1 < r_pcs e w T J → a ≤ r_beg w T J n1 := by
    intro q
    have g := (r_beh_iff (w := w) (T := T) (J := J) (x := a) (k := n1 - 1) hT)
    rw [show n1 - 1 + 1 = n1 by omega] at g
    have : ¬ (n1 - 1 < r_beh w T J a) := by omega
    rw [g] at this
    omega
  have eG : w_gb Z (nI n1) (nI a) = nI (h_nr (r_beg w T J) (r_pcs e w T J) n1 a) := by
    unfold w_gb h_nr
    rw [h10, show nI n1 - 1 = nI (n1 - 1) from zz_sub (b := 1) (by omega), w_beg_n h6 h8 h9 (n1 - 1) (by omega), zz_sub u3]
    by_cases c : r_pcs e w T J ≤ n1
    · rw [if_pos (nI_le c (by omega)), if_pos c]
    · have k4 := u4 (by omega)
      have k5 := hbe n1 (by omega)
      rw [if_neg (nI_ge (by omega) (by omega)), if_neg c, if_neg (by omega), w_beg_n h6 h8 h9 n1 (by omega), zz_sub k4, h_imin (by omega) (by omega)]
  obtain ⟨n2, hn2⟩ : ∃ n2, n2 = h_enb e w T J b := ⟨_, rfl⟩
  have e3 : w_enb Z (nI b) = nI n2 := by
    rw [hn2]
    unfold w_enb h_enb
    rw [h6, h7, h8, h9, h10]
    by_cases c : b < e
    · rw [if_pos (nI_lt c (by omega)), if_pos c]
      by_cases c2 : w ≤ b
      · rw [if_pos (nI_le c2 (by omega)), if_pos c2, zz_sub c2, nI_add]
        unfold i_quo
        rw [if_neg (nI_ne0 (by omega) (by omega)), zz_div (by omega) (by omega), show (1 : Int32) = nI 1 from rfl, nI_add]
      · rw [if_neg (nI_ge (by omega) (by omega)), if_neg c2]
        rfl
    · rw [if_neg (nI_nlt (by omega) (by omega)), if_neg c]
  have v3 : 1 ≤ n2 → r_beg w T J (n2 - 1) + r_wid e w T J (n2 - 1) ≤ b := fun q => (h_enb_iff hT he (by omega)).mpr (by omega)
  have v4 : n2 < r_pcs e w T J → b ≤ r_beg w T J n2 + r_wid e w T J n2 := by
    intro q
    have g := h_enb_iff (a := b) hT he q
    omega
  have eE : w_ge Z (nI n2) (nI b) = nI (h_nr (fun k => r_beg w T J k + r_wid e w T J k) (r_pcs e w T J) n2 b) := by
    have wend : ∀ k : Nat, k < r_pcs e w T J → w_end Z (nI k) = nI (r_beg w T J k + r_wid e w T J k) := fun k hk => by
      rw [w_end_n h6 h7 h8 h9 (by omega) b4 b5 (by omega) k (by omega), h_end hT he hk]
    unfold w_ge h_nr
    rw [h10]
    by_cases c : r_pcs e w T J ≤ n2
    · rw [if_pos (nI_le c (by omega)), if_pos c, if_neg (nI_nle (by omega) (by omega)), show nI n2 - 1 = nI (n2 - 1) from zz_sub (b := 1) (by omega), wend _ (by omega), zz_sub (v3 (by omega))]
    · have k4 := v4 (by omega)
      have k5 := hen n2 (by omega)
      rw [if_neg (nI_ge (by omega) (by omega)), if_neg c, wend n2 (by omega), zz_sub k4]
      by_cases c0 : n2 = 0
      · rw [if_pos c0, c0, if_pos (show nI 0 ≤ 0 by decide), show (1000000 : Int32) = nI 1000000 from rfl]
        rw [c0] at k4 k5
        rw [h_imin (by omega) (by omega), show min 1000000 (r_beg w T J 0 + r_wid e w T J 0 - b) = r_beg w T J 0 + r_wid e w T J 0 - b by omega]
      · rw [if_neg c0, if_neg (nI_nle (by omega) (by omega)), show nI n2 - 1 = nI (n2 - 1) from zz_sub (b := 1) (by omega), wend _ (by omega), zz_sub (v3 (by omega)), h_imin (by omega) (by omega)]
  obtain ⟨p1, j1, q1, q2⟩ := h_near (s := r_beg w T J) (x := a) hP1 (fun j k hjk _ => h_beg_mono w T J k hjk) (by omega) (fun _ => u3) u4
  obtain ⟨p2, j2, q3, q4⟩ := h_near (s := fun k => r_beg w T J k + r_wid e w T J k) (x := b) hP1 (fun j k hjk hk => h_end_mono hT he hjk hk) (show n2 ≤ r_pcs e w T J by omega) v3 v4
  have small1 : ∀ k : Nat, k < r_pcs e w T J → h_ap (r_beg w T J k) a < 100000 := fun k hk => by
    have := hbe k hk
    unfold h_ap
    split <;> omega
  have small2 : ∀ k : Nat, k < r_pcs e w T J → h_ap (r_beg w T J k + r_wid e w T J k) b < 100000 := fun k hk => by
    have := hen k hk
    unfold h_ap
    split <;> omega
  have l1 := p1 0 (by omega)
  have l2 := p2 0 (by omega)
  have s1 := small1 0 (by omega)
  have s2 := small2 0 (by omega)
  rw [e1, e2, eG, e3, eE, h_imin (by omega) (by omega)]
  unfold r_ga
  rw [show r_A w T J 0 = nI (r_beg w T J 0) from rfl, s_ap_n (x := r_beg w T J 0) (y := a) (by have := hbe 0 (by omega); omega) (by omega)]
  rw [zz_gp_n (P := r_pcs e w T J) (d1 := fun k => h_ap (r_beg w T J k) a) (d2 := fun k => h_ap (r_beg w T J k + r_wid e w T J k) b) (fun k hk => ?_) (r_pcs e w T J) 0 (h_ap (r_beg w T J 0) a) (by omega) s1]
  · refine congrArg nI (h_fold_min _ _ _ (fun j _ hj => ?_) ?_ ?_).symm
    · have k1 := p1 j (by omega)
      have k2 := p2 j (by omega)
      omega
    · omega
    · by_cases c : h_nr (r_beg w T J) (r_pcs e w T J) n1 a ≤ h_nr (fun k => r_beg w T J k + r_wid e w T J k) (r_pcs e w T J) n2 b
      · exact Or.inr ⟨j1, Nat.zero_le _, by omega, Or.inl (by omega)⟩
      · exact Or.inr ⟨j2, Nat.zero_le _, by omega, Or.inr (by omega)⟩
  · have k1 := hbe k hk
    have k2 := hen k hk
    exact ⟨⟨s_ap_n (x := r_beg w T J k) (by omega) (by omega), small1 k hk⟩, by rw [h_AB]; exact s_ap_n (by omega) (by omega), small2 k hk⟩
theorem h_look {Z : Nat → Int32} {e w T J a b : Nat} (h : rw_ok Z e w T J) (ha : a ≤ 4000) (hab : a < b) (hb : b ≤ 4999) : s_look Z (nI a) (nI b) 11 = r_jo (r_A w T J) (r_B e w T J) (r_pcs e w T J) (nI a) (nI b) ∧ s_look Z (nI a) (nI b) 12 = r_ga (r_A w T J) (r_B e w T J) (r_pcs e w T J) (nI a) (nI b) ∧ s_look Z (nI a) (nI b) 13 = r_to (r_A w T J) (r_B e w T J) (r_pcs e w T J) (nI a) (nI b) ∧ s_look Z (nI a) (nI b) 14 = r_hi (nI T) (r_A w T J) (r_B e w T J) (r_pcs e w T J) (nI a) (nI b) := by
  obtain ⟨⟨h6, h7, h8, h9, h10⟩, b1, b2, b3, b4, b5, b6, b7⟩ := id h
  have hT : 0 < T := by omega
  have he : 0 < e := by omega
  have hP := r_pcs_le (w := w) (J := J) b3 b7
  have hP1 := r_pcs_pos e w T J
  have beh : ∀ x : Nat, x ≤ 5100 → i_min (Z 10 - 1) (w_beh Z (nI x)) = nI (min (r_pcs e w T J - 1) (r_beh w T J x)) := fun x hx => by
    have hx2 : r_beh w T J x ≤ 5101 := by
      unfold r_beh
      split
      · omega
      · have := Nat.div_le_self (x - w - J - 1) (T + J)
        omega
    rw [rw_last h, w_beh_n h6 h8 h9 (by omega) b3 b4 b5 (by omega), h_imin (by omega) (by omega)]
  refine ⟨?_, ?_, ?_, ?_⟩
  · show i_min (Z 10 - 1) (w_beh Z ((nI b + Z 9) + 1)) - i_min (Z 10 - 1) (w_beh Z (nI a)) = _
    have mono : r_beh w T J a ≤ r_beh w T J (b + J + 1) := by
      rcases Nat.eq_zero_or_pos (r_beh w T J a) with q | q
      · omega
      · have g := (r_beh_iff (w := w) (T := T) (J := J) (x := a) (k := r_beh w T J a - 1) hT).mp (by omega)
        have g2 := (r_beh_iff (w := w) (T := T) (J := J) (x := b + J + 1) (k := r_beh w T J a - 1) hT).mpr (by omega)
        omega
    rw [h9, nI_add, nI_1, beh _ (by omega), beh a (by omega), zz_sub (by omega), h_jo hT he (by omega) (by omega) (by omega)]
  · show i_min (w_gb Z (1 + i_min (Z 10 - 1) (w_beh Z (nI a))) (nI a)) (w_ge Z (w_enb Z (nI b)) (nI b)) = _
    exact h_ga h ha (by omega) hb
  · show (1 + i_min (Z 10 - 1) (w_beh Z (nI b))) - w_enb Z (nI a) = _
    have hE := h_enb_le (e := e) (w := w) (J := J) (a := a) hT
    have e3 : w_enb Z (nI a) = nI (h_enb e w T J a) := by
      unfold w_enb h_enb
      rw [h6, h7, h8, h9, h10]
      by_cases c : a < e
      · rw [if_pos (nI_lt c (by omega)), if_pos c]
        by_cases c2 : w ≤ a
        · rw [if_pos (nI_le c2 (by omega)), if_pos c2, zz_sub c2, nI_add]
          unfold i_quo
          rw [if_neg (nI_ne0 (by omega) (by omega)), zz_div (by omega) (by omega), show (1 : Int32) = nI 1 from rfl, nI_add]
        · rw [if_neg (nI_ge (by omega) (by omega)), if_neg c2]
          rfl
      · rw [if_neg (nI_nlt (by omega) (by omega)), if_neg c]
    have le : h_enb e w T J a ≤ 1 + min (r_pcs e w T J - 1) (r_beh w T J b) := by
      rcases Nat.eq_zero_or_pos (h_enb e w T J a) with q | q
      · omega
      · have g := (h_enb_iff (e := e) (w := w) (J := J) (a := a) (k := h_enb e w T J a - 1) hT he (by omega)).mpr (by omega)
        have g2 := (h_beg_b (w := w) (T := T) (J := J) (k := h_enb e w T J a - 1) (b := b) hT (by omega)).mp (by omega)
        omega
    rw [beh b (by omega), e3, show (1 : Int32) = nI 1 from rfl, nI_add, zz_sub le, h_to hT he (by omega) (by omega) (by omega) (by omega)]
    exact congrArg nI (by omega)
  · exact (h_hi h).symm
