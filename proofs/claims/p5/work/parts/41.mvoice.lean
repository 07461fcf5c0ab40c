theorem px_tr30 {x : Int32} (h : 0 ≤ x ∧ x.toInt ≤ 30) (c : ¬ (30 ≤ x)) : x = nI x.toNatClampNeg ∧ x.toNatClampNeg < 30 ∧ 0 ≤ x + 1 ∧ (x + 1).toInt ≤ 30 := by
  obtain ⟨n, hn, rfl⟩ := nI_of (Int32.not_lt.mpr h.1)
  have h2 := h.2
  rw [nI_toInt hn] at h2
  have c2 : ¬ (30 ≤ n) := fun q => c ((nI_leI (a := 30) (by omega) (by omega)).mpr q)
  rw [nI_clamp hn, ← nI_succ, nI_toInt (by omega)]
  exact ⟨rfl, by omega, nI_pos' (by omega), by omega⟩
theorem mm_starts {Z : Nat → Int32} {F : Nat → Nat → Int32} (h6 : 0 ≤ Z 6 ∧ (Z 6).toInt ≤ 30) (b : Int32) : px_PM 1 184 [.ref 1000, .int b] ([], px_MH Z F) (fun r h' => r = none ∧ ∃ (t : Int32) (g : Nat → Int32), (0 ≤ t ∧ t.toInt ≤ 30) ∧ h' = ([], px_MH (upd Z 6 t) (va_up F 10 g))) := by
  refine px_PM.start (nL := 2) (code := pc_184) rfl rfl ?_
  refine px_PW.steps kt_184.2 4 rfl ?_
  refine px_PW.br (fun c0 => ?_) (fun c0 => ?_)
  · have c0 : 30 ≤ (Z 6) := of_decide_eq_true c0
    refine px_PW.ret kt_184.2 rfl rfl ?_
    exact ⟨rfl, Z 6, F 10, h6, by rw [zz_ui, px_up_id]⟩
  · have c0 : ¬ (30 ≤ (Z 6)) := of_decide_eq_false c0
    refine px_PW.steps kt_184.2 5 rfl ?_
    refine ms_10 kt_184.2 rfl (n := (Z 6).toNatClampNeg) (px_tr30 h6 c0).1 (px_tr30 h6 c0).2.1 ?_
    refine px_PW.steps kt_184.2 5 rfl ?_
    refine mo_6 kt_184.2 rfl ?_
    refine px_PW.ret kt_184.2 rfl rfl ?_
    exact ⟨rfl, Z 6 + 1, _, (px_tr30 h6 c0).2.2, rfl⟩
def r_drips (K : Nat) (sp x : Int32) : Int32 := match K with
  | 1 => x + sp - 4
  | 4 => (x + sp - 4) * 3
  | 6 => 9
  | _ => x + sp
def r_scores (K own : Nat) (sp m x : Int32) : Int32 := match K with
  | 2 => 0 - r_drips own sp x * 2
  | 5 => 0 - r_drips own sp (x + 1) * 2
  | 6 => r_drips own sp x * 2 + m
  | _ => r_drips own sp x * 2
def r_snaps (K own : Nat) (sp m x : Int32) : Int32 := match K with
  | 3 => r_scores own own sp m (x / 2) - m
  | 6 => r_scores own own sp m (x / 2) - m
  | 4 => (r_scores own own sp m x - m) ^^^ sp
  | _ => r_scores own own sp m x - m
def r_base (sp m x : Int32) : Int32 := if m - sp = 0 then 0 else if m - sp = -1 then -x else x / (m - sp)
def r_parts (K own : Nat) (sp m x : Int32) : Int32 := match K with
  | 1 => if m - sp = 0 then 0 else r_base sp m x + r_scores own own sp m 1
  | 4 => if m - sp = 0 then 0 else r_base sp m x + r_scores own own sp m 1
  | _ => r_base sp m x
theorem md_0 {Z : Nat → Int32} {F : Nat → Nat → Int32} (h6 : 0 ≤ Z 6 ∧ (Z 6).toInt ≤ 30) (x : Int32) : px_PM 2 188 [.ref 1000, .int 0, .int x] ([], px_MH Z F) (fun r h' => r = some (.int (r_drips 0 (Z 7) x)) ∧ ∃ (t : Int32) (g : Nat → Int32), (0 ≤ t ∧ t.toInt ≤ 30) ∧ h' = ([], px_MH (upd Z 6 t) (va_up F 10 g))) := by
  refine px_PM.start (nL := 3) (code := pc_188) rfl rfl ?_
  refine px_PW.steps kt_188.2 2 rfl ?_
  refine px_PW.at (pc' := 44) rfl ?_
  refine px_PW.steps kt_188.2 2 rfl ?_
  refine px_PW.callV kt_188.2 rfl rfl rfl rfl (mm_starts (Z := Z) (F := F) h6 _) (by decide) (fun v h1 q => ?_)
  obtain ⟨rfl, t1, g1, ht1, rfl⟩ := q
  refine px_PW.steps kt_188.2 4 rfl ?_
  refine px_PW.ret kt_188.2 rfl rfl ?_
  exact ⟨rfl, t1, g1, ht1, rfl⟩
theorem md_1 {Z : Nat → Int32} {F : Nat → Nat → Int32} (h6 : 0 ≤ Z 6 ∧ (Z 6).toInt ≤ 30) (x : Int32) : px_PM 3 188 [.ref 1000, .int 1, .int x] ([], px_MH Z F) (fun r h' => r = some (.int (r_drips 1 (Z 7) x)) ∧ ∃ (t : Int32) (g : Nat → Int32), (0 ≤ t ∧ t.toInt ≤ 30) ∧ h' = ([], px_MH (upd Z 6 t) (va_up F 10 g))) := by
  refine px_PM.start (nL := 3) (code := pc_188) rfl rfl ?_
  refine px_PW.steps kt_188.2 2 rfl ?_
  refine px_PW.at (pc' := 57) rfl ?_
  refine px_PW.steps kt_188.2 2 rfl ?_
  refine px_PW.callV kt_188.2 rfl rfl rfl rfl (mm_starts (Z := Z) (F := F) h6 _) (by decide) (fun v h1 q => ?_)
  obtain ⟨rfl, t1, g1, ht1, rfl⟩ := q
  refine px_PW.steps kt_188.2 2 rfl ?_
  refine px_PW.callS kt_188.2 rfl rfl rfl (mm_above _ _) (by decide) (fun v h1 q => ?_)
  obtain ⟨rfl, rfl⟩ := q
  refine px_PW.steps kt_188.2 1 rfl ?_
  refine px_PW.callV kt_188.2 rfl rfl rfl rfl (md_0 (Z := (upd Z 6 t1)) (F := (va_up F 10 g1)) ht1 _) (by decide) (fun v h1 q => ?_)
  obtain ⟨rfl, t2, g2, ht2, rfl⟩ := q
  refine px_PW.steps kt_188.2 2 rfl ?_
  refine px_PW.ret kt_188.2 rfl rfl ?_
  exact ⟨rfl, t2, g2, ht2, by rw [zz_uu, px_up_up]⟩
theorem md_2 {Z : Nat → Int32} {F : Nat → Nat → Int32} (h6 : 0 ≤ Z 6 ∧ (Z 6).toInt ≤ 30) (x : Int32) : px_PM 3 188 [.ref 1000, .int 2, .int x] ([], px_MH Z F) (fun r h' => r = some (.int (r_drips 2 (Z 7) x)) ∧ ∃ (t : Int32) (g : Nat → Int32), (0 ≤ t ∧ t.toInt ≤ 30) ∧ h' = ([], px_MH (upd Z 6 t) (va_up F 10 g))) := by
  refine px_PM.start (nL := 3) (code := pc_188) rfl rfl ?_
  refine px_PW.steps kt_188.2 2 rfl ?_
  refine px_PW.at (pc' := 102) rfl ?_
  refine px_PW.steps kt_188.2 2 rfl ?_
  refine px_PW.callS kt_188.2 rfl rfl rfl (mm_above _ _) (by decide) (fun v h1 q => ?_)
  obtain ⟨rfl, rfl⟩ := q
  refine px_PW.steps kt_188.2 1 rfl ?_
  refine px_PW.callV kt_188.2 rfl rfl rfl rfl (md_0 (Z := Z) (F := F) h6 _) (by decide) (fun v h1 q => ?_)
  obtain ⟨rfl, t1, g1, ht1, rfl⟩ := q
  refine px_PW.ret kt_188.2 rfl rfl ?_
  exact ⟨rfl, t1, g1, ht1, rfl⟩
theorem md_3 {Z : Nat → Int32} {F : Nat → Nat → Int32} (h6 : 0 ≤ Z 6 ∧ (Z 6).toInt ≤ 30) (x : Int32) : px_PM 3 188 [.ref 1000, .int 3, .int x] ([], px_MH Z F) (fun r h' => r = some (.int (r_drips 3 (Z 7) x)) ∧ ∃ (t : Int32) (g : Nat → Int32), (0 ≤ t ∧ t.toInt ≤ 30) ∧ h' = ([], px_MH (upd Z 6 t) (va_up F 10 g))) := by
  refine px_PM.start (nL := 3) (code := pc_188) rfl rfl ?_
  refine px_PW.steps kt_188.2 2 rfl ?_
  refine px_PW.at (pc' := 102) rfl ?_
  refine px_PW.steps kt_188.2 2 rfl ?_
  refine px_PW.callS kt_188.2 rfl rfl rfl (mm_above _ _) (by decide) (fun v h1 q => ?_)
  obtain ⟨rfl, rfl⟩ := q
  refine px_PW.steps kt_188.2 1 rfl ?_
  refine px_PW.callV kt_188.2 rfl rfl rfl rfl (md_0 (Z := Z) (F := F) h6 _) (by decide) (fun v h1 q => ?_)
  obtain ⟨rfl, t1, g1, ht1, rfl⟩ := q
  refine px_PW.ret kt_188.2 rfl rfl ?_
  exact ⟨rfl, t1, g1, ht1, rfl⟩
theorem md_4 {Z : Nat → Int32} {F : Nat → Nat → Int32} (h6 : 0 ≤ Z 6 ∧ (Z 6).toInt ≤ 30) (x : Int32) : px_PM 4 188 [.ref 1000, .int 4, .int x] ([], px_MH Z F) (fun r h' => r = some (.int (r_drips 4 (Z 7) x)) ∧ ∃ (t : Int32) (g : Nat → Int32), (0 ≤ t ∧ t.toInt ≤ 30) ∧ h' = ([], px_MH (upd Z 6 t) (va_up F 10 g))) := by
  refine px_PM.start (nL := 3) (code := pc_188) rfl rfl ?_
  refine px_PW.steps kt_188.2 2 rfl ?_
  refine px_PW.at (pc' := 75) rfl ?_
  refine px_PW.steps kt_188.2 2 rfl ?_
  refine px_PW.callV kt_188.2 rfl rfl rfl rfl (mm_starts (Z := Z) (F := F) h6 _) (by decide) (fun v h1 q => ?_)
  obtain ⟨rfl, t1, g1, ht1, rfl⟩ := q
  refine px_PW.steps kt_188.2 2 rfl ?_
  refine px_PW.callS kt_188.2 rfl rfl rfl (mm_above _ _) (by decide) (fun v h1 q => ?_)
  obtain ⟨rfl, rfl⟩ := q
  refine px_PW.steps kt_188.2 1 rfl ?_
  refine px_PW.callV kt_188.2 rfl rfl rfl rfl (md_1 (Z := (upd Z 6 t1)) (F := (va_up F 10 g1)) ht1 _) (by decide) (fun v h1 q => ?_)
  obtain ⟨rfl, t2, g2, ht2, rfl⟩ := q
  refine px_PW.steps kt_188.2 2 rfl ?_
  refine px_PW.ret kt_188.2 rfl rfl ?_
  exact ⟨rfl, t2, g2, ht2, by rw [zz_uu, px_up_up]⟩
theorem md_5 {Z : Nat → Int32} {F : Nat → Nat → Int32} (h6 : 0 ≤ Z 6 ∧ (Z 6).toInt ≤ 30) (x : Int32) : px_PM 4 188 [.ref 1000, .int 5, .int x] ([], px_MH Z F) (fun r h' => r = some (.int (r_drips 5 (Z 7) x)) ∧ ∃ (t : Int32) (g : Nat → Int32), (0 ≤ t ∧ t.toInt ≤ 30) ∧ h' = ([], px_MH (upd Z 6 t) (va_up F 10 g))) := by
  refine px_PM.start (nL := 3) (code := pc_188) rfl rfl ?_
  refine px_PW.steps kt_188.2 2 rfl ?_
  refine px_PW.at (pc' := 102) rfl ?_
  refine px_PW.steps kt_188.2 2 rfl ?_
  refine px_PW.callS kt_188.2 rfl rfl rfl (mm_above _ _) (by decide) (fun v h1 q => ?_)
  obtain ⟨rfl, rfl⟩ := q
  refine px_PW.steps kt_188.2 1 rfl ?_
  refine px_PW.callV kt_188.2 rfl rfl rfl rfl (md_2 (Z := Z) (F := F) h6 _) (by decide) (fun v h1 q => ?_)
  obtain ⟨rfl, t1, g1, ht1, rfl⟩ := q
  refine px_PW.ret kt_188.2 rfl rfl ?_
  exact ⟨rfl, t1, g1, ht1, rfl⟩
theorem md_6 {Z : Nat → Int32} {F : Nat → Nat → Int32} (h6 : 0 ≤ Z 6 ∧ (Z 6).toInt ≤ 30) (x : Int32) : px_PM 2 188 [.ref 1000, .int 6, .int x] ([], px_MH Z F) (fun r h' => r = some (.int (r_drips 6 (Z 7) x)) ∧ ∃ (t : Int32) (g : Nat → Int32), (0 ≤ t ∧ t.toInt ≤ 30) ∧ h' = ([], px_MH (upd Z 6 t) (va_up F 10 g))) := by
  refine px_PM.start (nL := 3) (code := pc_188) rfl rfl ?_
  refine px_PW.steps kt_188.2 2 rfl ?_
  refine px_PW.at (pc' := 93) rfl ?_
  refine px_PW.steps kt_188.2 2 rfl ?_
  refine px_PW.callV kt_188.2 rfl rfl rfl rfl (mm_starts (Z := Z) (F := F) h6 _) (by decide) (fun v h1 q => ?_)
  obtain ⟨rfl, t1, g1, ht1, rfl⟩ := q
  refine px_PW.steps kt_188.2 1 rfl ?_
  refine px_PW.ret kt_188.2 rfl rfl ?_
  exact ⟨rfl, t1, g1, ht1, rfl⟩
theorem mdE {Z : Nat → Int32} {F : Nat → Nat → Int32} {K : Nat} (hK : K < 7) {kk : Int32} (hk : kk = nI K) (h6 : 0 ≤ Z 6 ∧ (Z 6).toInt ≤ 30) (x : Int32) : px_PM 4 188 [.ref 1000, .int kk, .int x] ([], px_MH Z F) (fun r h' => r = some (.int (r_drips K (Z 7) x)) ∧ ∃ (t : Int32) (g : Nat → Int32), (0 ≤ t ∧ t.toInt ≤ 30) ∧ h' = ([], px_MH (upd Z 6 t) (va_up F 10 g))) := by
  subst hk
  match K, hK with
  | 0, _ => exact (md_0 h6 x).mono (by decide) (fun _ _ q => q)
  | 1, _ => exact (md_1 h6 x).mono (by decide) (fun _ _ q => q)
  | 2, _ => exact (md_2 h6 x).mono (by decide) (fun _ _ q => q)
  | 3, _ => exact (md_3 h6 x).mono (by decide) (fun _ _ q => q)
  | 4, _ => exact (md_4 h6 x).mono (by decide) (fun _ _ q => q)
  | 5, _ => exact (md_5 h6 x).mono (by decide) (fun _ _ q => q)
  | 6, _ => exact (md_6 h6 x).mono (by decide) (fun _ _ q => q)
theorem mm_kindNow {Z : Nat → Int32} {F : Nat → Nat → Int32} {n : Nat} (hn : n < 6) (h7 : Z 7 = nI n) : px_PM 2 186 [.ref 1000] ([], px_MH Z F) (fun r h' => r = some (.int (F 0 (12 + 4 * n + 0))) ∧ h' = ([], px_MH Z F)) := by
  refine px_PM.start (nL := 1) (code := pc_186) rfl rfl ?_
  refine px_PW.steps kt_186.2 4 rfl ?_
  refine px_PW.callV kt_186.2 rfl rfl rfl rfl (mm_its (n := n) (k := 0) h7 rfl hn (by decide)) (by decide) (fun v h1 q => ?_)
  obtain ⟨rfl, rfl⟩ := q
  refine px_PW.ret kt_186.2 rfl rfl ?_
  exact ⟨rfl, rfl⟩
theorem mm_mNow {Z : Nat → Int32} {F : Nat → Nat → Int32} {n : Nat} (hn : n < 6) (h7 : Z 7 = nI n) : px_PM 2 187 [.ref 1000] ([], px_MH Z F) (fun r h' => r = some (.int (F 0 (12 + 4 * n + 1))) ∧ h' = ([], px_MH Z F)) := by
  refine px_PM.start (nL := 1) (code := pc_187) rfl rfl ?_
  refine px_PW.steps kt_187.2 4 rfl ?_
  refine px_PW.callV kt_187.2 rfl rfl rfl rfl (mm_its (n := n) (k := 1) h7 rfl hn (by decide)) (by decide) (fun v h1 q => ?_)
  obtain ⟨rfl, rfl⟩ := q
  refine px_PW.ret kt_187.2 rfl rfl ?_
  exact ⟨rfl, rfl⟩
theorem me_0 {Z : Nat → Int32} {F : Nat → Nat → Int32} (h6 : 0 ≤ Z 6 ∧ (Z 6).toInt ≤ 30) {n own : Nat} (hn : n < 6) (h7 : Z 7 = nI n) (ho : F 0 (12 + 4 * n + 0) = nI own) (hown : own < 7) (x : Int32) : px_PM 5 189 [.ref 1000, .int 0, .int x] ([], px_MH Z F) (fun r h' => r = some (.int ((r_scores 0 own (Z 7) (F 0 (12 + 4 * n + 1)) x))) ∧ ∃ (t : Int32) (g : Nat → Int32), (0 ≤ t ∧ t.toInt ≤ 30) ∧ h' = ([], px_MH (upd Z 6 t) (va_up F 10 g))) := by
  refine px_PM.start (nL := 3) (code := pc_189) rfl rfl ?_
  refine px_PW.steps kt_189.2 2 rfl ?_
  refine px_PW.at (pc' := 44) rfl ?_
  refine px_PW.steps kt_189.2 2 rfl ?_
  refine px_PW.callV kt_189.2 rfl rfl rfl rfl (mm_starts (Z := Z) (F := F) h6 _) (by decide) (fun v h1 q => ?_)
  obtain ⟨rfl, t1, g1, ht1, rfl⟩ := q
  refine px_PW.steps kt_189.2 2 rfl ?_
  refine px_PW.callV kt_189.2 rfl rfl rfl rfl (mm_kindNow (Z := (upd Z 6 t1)) (F := (va_up F 10 g1)) hn h7) (by decide) (fun v h1 q => ?_)
  obtain ⟨rfl, rfl⟩ := q
  refine px_PW.steps kt_189.2 1 rfl ?_
  refine px_PW.callV kt_189.2 rfl rfl rfl rfl (mdE (Z := (upd Z 6 t1)) (F := (va_up F 10 g1)) hown (show _ = nI own from ho) ht1 _) (by decide) (fun v h1 q => ?_)
  obtain ⟨rfl, t2, g2, ht2, rfl⟩ := q
  refine px_PW.steps kt_189.2 2 rfl ?_
  refine px_PW.ret kt_189.2 rfl rfl ?_
  exact ⟨rfl, t2, g2, ht2, by rw [zz_uu, px_up_up]⟩
theorem me_1 {Z : Nat → Int32} {F : Nat → Nat → Int32} (h6 : 0 ≤ Z 6 ∧ (Z 6).toInt ≤ 30) {n own : Nat} (hn : n < 6) (h7 : Z 7 = nI n) (ho : F 0 (12 + 4 * n + 0) = nI own) (hown : own < 7) (x : Int32) : px_PM 6 189 [.ref 1000, .int 1, .int x] ([], px_MH Z F) (fun r h' => r = some (.int ((r_scores 1 own (Z 7) (F 0 (12 + 4 * n + 1)) x))) ∧ ∃ (t : Int32) (g : Nat → Int32), (0 ≤ t ∧ t.toInt ≤ 30) ∧ h' = ([], px_MH (upd Z 6 t) (va_up F 10 g))) := by
  refine px_PM.start (nL := 3) (code := pc_189) rfl rfl ?_
  refine px_PW.steps kt_189.2 2 rfl ?_
  refine px_PW.at (pc' := 120) rfl ?_
  refine px_PW.steps kt_189.2 2 rfl ?_
  refine px_PW.callS kt_189.2 rfl rfl rfl (mm_above _ _) (by decide) (fun v h1 q => ?_)
  obtain ⟨rfl, rfl⟩ := q
  refine px_PW.steps kt_189.2 1 rfl ?_
  refine px_PW.callV kt_189.2 rfl rfl rfl rfl (me_0 (Z := Z) (F := F) h6 hn h7 ho hown _) (by decide) (fun v h1 q => ?_)
  obtain ⟨rfl, t1, g1, ht1, rfl⟩ := q
  refine px_PW.ret kt_189.2 rfl rfl ?_
  exact ⟨rfl, t1, g1, ht1, rfl⟩
theorem me_2 {Z : Nat → Int32} {F : Nat → Nat → Int32} (h6 : 0 ≤ Z 6 ∧ (Z 6).toInt ≤ 30) {n own : Nat} (hn : n < 6) (h7 : Z 7 = nI n) (ho : F 0 (12 + 4 * n + 0) = nI own) (hown : own < 7) (x : Int32) : px_PM 6 189 [.ref 1000, .int 2, .int x] ([], px_MH Z F) (fun r h' => r = some (.int ((r_scores 2 own (Z 7) (F 0 (12 + 4 * n + 1)) x))) ∧ ∃ (t : Int32) (g : Nat → Int32), (0 ≤ t ∧ t.toInt ≤ 30) ∧ h' = ([], px_MH (upd Z 6 t) (va_up F 10 g))) := by
  refine px_PM.start (nL := 3) (code := pc_189) rfl rfl ?_
  refine px_PW.steps kt_189.2 2 rfl ?_
  refine px_PW.at (pc' := 62) rfl ?_
  refine px_PW.steps kt_189.2 2 rfl ?_
  refine px_PW.callV kt_189.2 rfl rfl rfl rfl (mm_starts (Z := Z) (F := F) h6 _) (by decide) (fun v h1 q => ?_)
  obtain ⟨rfl, t1, g1, ht1, rfl⟩ := q
  refine px_PW.steps kt_189.2 3 rfl ?_
  refine px_PW.callS kt_189.2 rfl rfl rfl (mm_above _ _) (by decide) (fun v h1 q => ?_)
  obtain ⟨rfl, rfl⟩ := q
  refine px_PW.steps kt_189.2 1 rfl ?_
  refine px_PW.callV kt_189.2 rfl rfl rfl rfl (me_0 (Z := (upd Z 6 t1)) (F := (va_up F 10 g1)) ht1 hn h7 ho hown _) (by decide) (fun v h1 q => ?_)
  obtain ⟨rfl, t2, g2, ht2, rfl⟩ := q
  refine px_PW.steps kt_189.2 1 rfl ?_
  refine px_PW.ret kt_189.2 rfl rfl ?_
  exact ⟨rfl, t2, g2, ht2, by rw [zz_uu, px_up_up]⟩
theorem me_3 {Z : Nat → Int32} {F : Nat → Nat → Int32} (h6 : 0 ≤ Z 6 ∧ (Z 6).toInt ≤ 30) {n own : Nat} (hn : n < 6) (h7 : Z 7 = nI n) (ho : F 0 (12 + 4 * n + 0) = nI own) (hown : own < 7) (x : Int32) : px_PM 6 189 [.ref 1000, .int 3, .int x] ([], px_MH Z F) (fun r h' => r = some (.int ((r_scores 3 own (Z 7) (F 0 (12 + 4 * n + 1)) x))) ∧ ∃ (t : Int32) (g : Nat → Int32), (0 ≤ t ∧ t.toInt ≤ 30) ∧ h' = ([], px_MH (upd Z 6 t) (va_up F 10 g))) := by
  refine px_PM.start (nL := 3) (code := pc_189) rfl rfl ?_
  refine px_PW.steps kt_189.2 2 rfl ?_
  refine px_PW.at (pc' := 120) rfl ?_
  refine px_PW.steps kt_189.2 2 rfl ?_
  refine px_PW.callS kt_189.2 rfl rfl rfl (mm_above _ _) (by decide) (fun v h1 q => ?_)
  obtain ⟨rfl, rfl⟩ := q
  refine px_PW.steps kt_189.2 1 rfl ?_
  refine px_PW.callV kt_189.2 rfl rfl rfl rfl (me_0 (Z := Z) (F := F) h6 hn h7 ho hown _) (by decide) (fun v h1 q => ?_)
  obtain ⟨rfl, t1, g1, ht1, rfl⟩ := q
  refine px_PW.ret kt_189.2 rfl rfl ?_
  exact ⟨rfl, t1, g1, ht1, rfl⟩
theorem me_4 {Z : Nat → Int32} {F : Nat → Nat → Int32} (h6 : 0 ≤ Z 6 ∧ (Z 6).toInt ≤ 30) {n own : Nat} (hn : n < 6) (h7 : Z 7 = nI n) (ho : F 0 (12 + 4 * n + 0) = nI own) (hown : own < 7) (x : Int32) : px_PM 7 189 [.ref 1000, .int 4, .int x] ([], px_MH Z F) (fun r h' => r = some (.int ((r_scores 4 own (Z 7) (F 0 (12 + 4 * n + 1)) x))) ∧ ∃ (t : Int32) (g : Nat → Int32), (0 ≤ t ∧ t.toInt ≤ 30) ∧ h' = ([], px_MH (upd Z 6 t) (va_up F 10 g))) := by
  refine px_PM.start (nL := 3) (code := pc_189) rfl rfl ?_
  refine px_PW.steps kt_189.2 2 rfl ?_
  refine px_PW.at (pc' := 120) rfl ?_
  refine px_PW.steps kt_189.2 2 rfl ?_
  refine px_PW.callS kt_189.2 rfl rfl rfl (mm_above _ _) (by decide) (fun v h1 q => ?_)
  obtain ⟨rfl, rfl⟩ := q
  refine px_PW.steps kt_189.2 1 rfl ?_
  refine px_PW.callV kt_189.2 rfl rfl rfl rfl (me_1 (Z := Z) (F := F) h6 hn h7 ho hown _) (by decide) (fun v h1 q => ?_)
  obtain ⟨rfl, t1, g1, ht1, rfl⟩ := q
  refine px_PW.ret kt_189.2 rfl rfl ?_
  exact ⟨rfl, t1, g1, ht1, rfl⟩
theorem me_5 {Z : Nat → Int32} {F : Nat → Nat → Int32} (h6 : 0 ≤ Z 6 ∧ (Z 6).toInt ≤ 30) {n own : Nat} (hn : n < 6) (h7 : Z 7 = nI n) (ho : F 0 (12 + 4 * n + 0) = nI own) (hown : own < 7) (x : Int32) : px_PM 7 189 [.ref 1000, .int 5, .int x] ([], px_MH Z F) (fun r h' => r = some (.int ((r_scores 5 own (Z 7) (F 0 (12 + 4 * n + 1)) x))) ∧ ∃ (t : Int32) (g : Nat → Int32), (0 ≤ t ∧ t.toInt ≤ 30) ∧ h' = ([], px_MH (upd Z 6 t) (va_up F 10 g))) := by
  refine px_PM.start (nL := 3) (code := pc_189) rfl rfl ?_
  refine px_PW.steps kt_189.2 2 rfl ?_
  refine px_PW.at (pc' := 80) rfl ?_
  refine px_PW.steps kt_189.2 2 rfl ?_
  refine px_PW.callV kt_189.2 rfl rfl rfl rfl (mm_starts (Z := Z) (F := F) h6 _) (by decide) (fun v h1 q => ?_)
  obtain ⟨rfl, t1, g1, ht1, rfl⟩ := q
  refine px_PW.steps kt_189.2 2 rfl ?_
  refine px_PW.callS kt_189.2 rfl rfl rfl (mm_above _ _) (by decide) (fun v h1 q => ?_)
  obtain ⟨rfl, rfl⟩ := q
  refine px_PW.steps kt_189.2 3 rfl ?_
  refine px_PW.callV kt_189.2 rfl rfl rfl rfl (me_2 (Z := (upd Z 6 t1)) (F := (va_up F 10 g1)) ht1 hn h7 ho hown _) (by decide) (fun v h1 q => ?_)
  obtain ⟨rfl, t2, g2, ht2, rfl⟩ := q
  refine px_PW.ret kt_189.2 rfl rfl ?_
  exact ⟨rfl, t2, g2, ht2, by rw [zz_uu, px_up_up]⟩
theorem me_6 {Z : Nat → Int32} {F : Nat → Nat → Int32} (h6 : 0 ≤ Z 6 ∧ (Z 6).toInt ≤ 30) {n own : Nat} (hn : n < 6) (h7 : Z 7 = nI n) (ho : F 0 (12 + 4 * n + 0) = nI own) (hown : own < 7) (x : Int32) : px_PM 7 189 [.ref 1000, .int 6, .int x] ([], px_MH Z F) (fun r h' => r = some (.int ((r_scores 6 own (Z 7) (F 0 (12 + 4 * n + 1)) x))) ∧ ∃ (t : Int32) (g : Nat → Int32), (0 ≤ t ∧ t.toInt ≤ 30) ∧ h' = ([], px_MH (upd Z 6 t) (va_up F 10 g))) := by
  refine px_PM.start (nL := 3) (code := pc_189) rfl rfl ?_
  refine px_PW.steps kt_189.2 2 rfl ?_
  refine px_PW.at (pc' := 98) rfl ?_
  refine px_PW.steps kt_189.2 2 rfl ?_
  refine px_PW.callV kt_189.2 rfl rfl rfl rfl (mm_starts (Z := Z) (F := F) h6 _) (by decide) (fun v h1 q => ?_)
  obtain ⟨rfl, t1, g1, ht1, rfl⟩ := q
  refine px_PW.steps kt_189.2 2 rfl ?_
  refine px_PW.callS kt_189.2 rfl rfl rfl (mm_above _ _) (by decide) (fun v h1 q => ?_)
  obtain ⟨rfl, rfl⟩ := q
  refine px_PW.steps kt_189.2 1 rfl ?_
  refine px_PW.callV kt_189.2 rfl rfl rfl rfl (me_3 (Z := (upd Z 6 t1)) (F := (va_up F 10 g1)) ht1 hn h7 ho hown _) (by decide) (fun v h1 q => ?_)
  obtain ⟨rfl, t2, g2, ht2, rfl⟩ := q
  refine px_PW.steps kt_189.2 1 rfl ?_
  refine px_PW.callV kt_189.2 rfl rfl rfl rfl (mm_mNow (Z := (upd (upd Z 6 t1) 6 t2)) (F := (va_up (va_up F 10 g1) 10 g2)) hn h7) (by decide) (fun v h1 q => ?_)
  obtain ⟨rfl, rfl⟩ := q
  refine px_PW.steps kt_189.2 1 rfl ?_
  refine px_PW.ret kt_189.2 rfl rfl ?_
  exact ⟨rfl, t2, g2, ht2, by rw [zz_uu, px_up_up]⟩
theorem meE {Z : Nat → Int32} {F : Nat → Nat → Int32} {K : Nat} (hK : K < 7) {kk : Int32} (hk : kk = nI K) (h6 : 0 ≤ Z 6 ∧ (Z 6).toInt ≤ 30) {n own : Nat} (hn : n < 6) (h7 : Z 7 = nI n) (ho : F 0 (12 + 4 * n + 0) = nI own) (hown : own < 7) (x : Int32) : px_PM 7 189 [.ref 1000, .int kk, .int x] ([], px_MH Z F) (fun r h' => r = some (.int ((r_scores K own (Z 7) (F 0 (12 + 4 * n + 1)) x))) ∧ ∃ (t : Int32) (g : Nat → Int32), (0 ≤ t ∧ t.toInt ≤ 30) ∧ h' = ([], px_MH (upd Z 6 t) (va_up F 10 g))) := by
  subst hk
  match K, hK with
  | 0, _ => exact (me_0 h6 hn h7 ho hown x).mono (by decide) (fun _ _ q => q)
  | 1, _ => exact (me_1 h6 hn h7 ho hown x).mono (by decide) (fun _ _ q => q)
  | 2, _ => exact (me_2 h6 hn h7 ho hown x).mono (by decide) (fun _ _ q => q)
  | 3, _ => exact (me_3 h6 hn h7 ho hown x).mono (by decide) (fun _ _ q => q)
  | 4, _ => exact (me_4 h6 hn h7 ho hown x).mono (by decide) (fun _ _ q => q)
  | 5, _ => exact (me_5 h6 hn h7 ho hown x).mono (by decide) (fun _ _ q => q)
  | 6, _ => exact (me_6 h6 hn h7 ho hown x).mono (by decide) (fun _ _ q => q)
theorem mf_0 {Z : Nat → Int32} {F : Nat → Nat → Int32} (h6 : 0 ≤ Z 6 ∧ (Z 6).toInt ≤ 30) {n own : Nat} (hn : n < 6) (h7 : Z 7 = nI n) (ho : F 0 (12 + 4 * n + 0) = nI own) (hown : own < 7) (x : Int32) : px_PM 8 190 [.ref 1000, .int 0, .int x] ([], px_MH Z F) (fun r h' => r = some (.int ((r_snaps 0 own (Z 7) (F 0 (12 + 4 * n + 1)) x))) ∧ ∃ (t : Int32) (g : Nat → Int32), (0 ≤ t ∧ t.toInt ≤ 30) ∧ h' = ([], px_MH (upd Z 6 t) (va_up F 10 g))) := by
  refine px_PM.start (nL := 3) (code := pc_190) rfl rfl ?_
  refine px_PW.steps kt_190.2 2 rfl ?_
  refine px_PW.at (pc' := 36) rfl ?_
  refine px_PW.steps kt_190.2 2 rfl ?_
  refine px_PW.callV kt_190.2 rfl rfl rfl rfl (mm_starts (Z := Z) (F := F) h6 _) (by decide) (fun v h1 q => ?_)
  obtain ⟨rfl, t1, g1, ht1, rfl⟩ := q
  refine px_PW.steps kt_190.2 2 rfl ?_
  refine px_PW.callV kt_190.2 rfl rfl rfl rfl (mm_kindNow (Z := (upd Z 6 t1)) (F := (va_up F 10 g1)) hn h7) (by decide) (fun v h1 q => ?_)
  obtain ⟨rfl, rfl⟩ := q
  refine px_PW.steps kt_190.2 1 rfl ?_
  refine px_PW.callV kt_190.2 rfl rfl rfl rfl (meE (Z := (upd Z 6 t1)) (F := (va_up F 10 g1)) hown (show _ = nI own from ho) ht1 hn h7 ho hown _) (by decide) (fun v h1 q => ?_)
  obtain ⟨rfl, t2, g2, ht2, rfl⟩ := q
  refine px_PW.steps kt_190.2 1 rfl ?_
  refine px_PW.callV kt_190.2 rfl rfl rfl rfl (mm_mNow (Z := (upd (upd Z 6 t1) 6 t2)) (F := (va_up (va_up F 10 g1) 10 g2)) hn h7) (by decide) (fun v h1 q => ?_)
  obtain ⟨rfl, rfl⟩ := q
  refine px_PW.steps kt_190.2 1 rfl ?_
  refine px_PW.ret kt_190.2 rfl rfl ?_
  exact ⟨rfl, t2, g2, ht2, by rw [zz_uu, px_up_up]⟩
theorem mf_1 {Z : Nat → Int32} {F : Nat → Nat → Int32} (h6 : 0 ≤ Z 6 ∧ (Z 6).toInt ≤ 30) {n own : Nat} (hn : n < 6) (h7 : Z 7 = nI n) (ho : F 0 (12 + 4 * n + 0) = nI own) (hown : own < 7) (x : Int32) : px_PM 9 190 [.ref 1000, .int 1, .int x] ([], px_MH Z F) (fun r h' => r = some (.int ((r_snaps 1 own (Z 7) (F 0 (12 + 4 * n + 1)) x))) ∧ ∃ (t : Int32) (g : Nat → Int32), (0 ≤ t ∧ t.toInt ≤ 30) ∧ h' = ([], px_MH (upd Z 6 t) (va_up F 10 g))) := by
  refine px_PM.start (nL := 3) (code := pc_190) rfl rfl ?_
  refine px_PW.steps kt_190.2 2 rfl ?_
  refine px_PW.at (pc' := 96) rfl ?_
  refine px_PW.steps kt_190.2 2 rfl ?_
  refine px_PW.callS kt_190.2 rfl rfl rfl (mm_above _ _) (by decide) (fun v h1 q => ?_)
  obtain ⟨rfl, rfl⟩ := q
  refine px_PW.steps kt_190.2 1 rfl ?_
  refine px_PW.callV kt_190.2 rfl rfl rfl rfl (mf_0 (Z := Z) (F := F) h6 hn h7 ho hown _) (by decide) (fun v h1 q => ?_)
  obtain ⟨rfl, t1, g1, ht1, rfl⟩ := q
  refine px_PW.ret kt_190.2 rfl rfl ?_
  exact ⟨rfl, t1, g1, ht1, rfl⟩
theorem mf_2 {Z : Nat → Int32} {F : Nat → Nat → Int32} (h6 : 0 ≤ Z 6 ∧ (Z 6).toInt ≤ 30) {n own : Nat} (hn : n < 6) (h7 : Z 7 = nI n) (ho : F 0 (12 + 4 * n + 0) = nI own) (hown : own < 7) (x : Int32) : px_PM 9 190 [.ref 1000, .int 2, .int x] ([], px_MH Z F) (fun r h' => r = some (.int ((r_snaps 2 own (Z 7) (F 0 (12 + 4 * n + 1)) x))) ∧ ∃ (t : Int32) (g : Nat → Int32), (0 ≤ t ∧ t.toInt ≤ 30) ∧ h' = ([], px_MH (upd Z 6 t) (va_up F 10 g))) := by
  refine px_PM.start (nL := 3) (code := pc_190) rfl rfl ?_
  refine px_PW.steps kt_190.2 2 rfl ?_
  refine px_PW.at (pc' := 96) rfl ?_
  refine px_PW.steps kt_190.2 2 rfl ?_
  refine px_PW.callS kt_190.2 rfl rfl rfl (mm_above _ _) (by decide) (fun v h1 q => ?_)
  obtain ⟨rfl, rfl⟩ := q
  refine px_PW.steps kt_190.2 1 rfl ?_
  refine px_PW.callV kt_190.2 rfl rfl rfl rfl (mf_0 (Z := Z) (F := F) h6 hn h7 ho hown _) (by decide) (fun v h1 q => ?_)
  obtain ⟨rfl, t1, g1, ht1, rfl⟩ := q
  refine px_PW.ret kt_190.2 rfl rfl ?_
  exact ⟨rfl, t1, g1, ht1, rfl⟩
theorem mf_3 {Z : Nat → Int32} {F : Nat → Nat → Int32} (h6 : 0 ≤ Z 6 ∧ (Z 6).toInt ≤ 30) {n own : Nat} (hn : n < 6) (h7 : Z 7 = nI n) (ho : F 0 (12 + 4 * n + 0) = nI own) (hown : own < 7) (x : Int32) : px_PM 9 190 [.ref 1000, .int 3, .int x] ([], px_MH Z F) (fun r h' => r = some (.int ((r_snaps 3 own (Z 7) (F 0 (12 + 4 * n + 1)) x))) ∧ ∃ (t : Int32) (g : Nat → Int32), (0 ≤ t ∧ t.toInt ≤ 30) ∧ h' = ([], px_MH (upd Z 6 t) (va_up F 10 g))) := by
  refine px_PM.start (nL := 3) (code := pc_190) rfl rfl ?_
  refine px_PW.steps kt_190.2 2 rfl ?_
  refine px_PW.at (pc' := 57) rfl ?_
  refine px_PW.steps kt_190.2 2 rfl ?_
  refine px_PW.callV kt_190.2 rfl rfl rfl rfl (mm_starts (Z := Z) (F := F) h6 _) (by decide) (fun v h1 q => ?_)
  obtain ⟨rfl, t1, g1, ht1, rfl⟩ := q
  refine px_PW.steps kt_190.2 2 rfl ?_
  refine px_PW.callS kt_190.2 rfl rfl rfl (mm_above _ _) (by decide) (fun v h1 q => ?_)
  obtain ⟨rfl, rfl⟩ := q
  refine px_PW.steps kt_190.2 3 rfl ?_
  refine px_PW.callV kt_190.2 rfl rfl rfl rfl (mf_0 (Z := (upd Z 6 t1)) (F := (va_up F 10 g1)) ht1 hn h7 ho hown _) (by decide) (fun v h1 q => ?_)
  obtain ⟨rfl, t2, g2, ht2, rfl⟩ := q
  refine px_PW.ret kt_190.2 rfl rfl ?_
  exact ⟨rfl, t2, g2, ht2, by rw [zz_uu, px_up_up]⟩
theorem mf_4 {Z : Nat → Int32} {F : Nat → Nat → Int32} (h6 : 0 ≤ Z 6 ∧ (Z 6).toInt ≤ 30) {n own : Nat} (hn : n < 6) (h7 : Z 7 = nI n) (ho : F 0 (12 + 4 * n + 0) = nI own) (hown : own < 7) (x : Int32) : px_PM 10 190 [.ref 1000, .int 4, .int x] ([], px_MH Z F) (fun r h' => r = some (.int ((r_snaps 4 own (Z 7) (F 0 (12 + 4 * n + 1)) x))) ∧ ∃ (t : Int32) (g : Nat → Int32), (0 ≤ t ∧ t.toInt ≤ 30) ∧ h' = ([], px_MH (upd Z 6 t) (va_up F 10 g))) := by
  refine px_PM.start (nL := 3) (code := pc_190) rfl rfl ?_
  refine px_PW.steps kt_190.2 2 rfl ?_
  refine px_PW.at (pc' := 75) rfl ?_
  refine px_PW.steps kt_190.2 2 rfl ?_
  refine px_PW.callV kt_190.2 rfl rfl rfl rfl (mm_starts (Z := Z) (F := F) h6 _) (by decide) (fun v h1 q => ?_)
  obtain ⟨rfl, t1, g1, ht1, rfl⟩ := q
  refine px_PW.steps kt_190.2 2 rfl ?_
  refine px_PW.callS kt_190.2 rfl rfl rfl (mm_above _ _) (by decide) (fun v h1 q => ?_)
  obtain ⟨rfl, rfl⟩ := q
  refine px_PW.steps kt_190.2 1 rfl ?_
  refine px_PW.callV kt_190.2 rfl rfl rfl rfl (mf_1 (Z := (upd Z 6 t1)) (F := (va_up F 10 g1)) ht1 hn h7 ho hown _) (by decide) (fun v h1 q => ?_)
  obtain ⟨rfl, t2, g2, ht2, rfl⟩ := q
  refine px_PW.steps kt_190.2 3 rfl ?_
  refine px_PW.ret kt_190.2 rfl rfl ?_
  exact ⟨rfl, t2, g2, ht2, by rw [zz_uu, px_up_up]⟩
theorem mf_5 {Z : Nat → Int32} {F : Nat → Nat → Int32} (h6 : 0 ≤ Z 6 ∧ (Z 6).toInt ≤ 30) {n own : Nat} (hn : n < 6) (h7 : Z 7 = nI n) (ho : F 0 (12 + 4 * n + 0) = nI own) (hown : own < 7) (x : Int32) : px_PM 10 190 [.ref 1000, .int 5, .int x] ([], px_MH Z F) (fun r h' => r = some (.int ((r_snaps 5 own (Z 7) (F 0 (12 + 4 * n + 1)) x))) ∧ ∃ (t : Int32) (g : Nat → Int32), (0 ≤ t ∧ t.toInt ≤ 30) ∧ h' = ([], px_MH (upd Z 6 t) (va_up F 10 g))) := by
  refine px_PM.start (nL := 3) (code := pc_190) rfl rfl ?_
  refine px_PW.steps kt_190.2 2 rfl ?_
  refine px_PW.at (pc' := 96) rfl ?_
  refine px_PW.steps kt_190.2 2 rfl ?_
  refine px_PW.callS kt_190.2 rfl rfl rfl (mm_above _ _) (by decide) (fun v h1 q => ?_)
  obtain ⟨rfl, rfl⟩ := q
  refine px_PW.steps kt_190.2 1 rfl ?_
  refine px_PW.callV kt_190.2 rfl rfl rfl rfl (mf_2 (Z := Z) (F := F) h6 hn h7 ho hown _) (by decide) (fun v h1 q => ?_)
  obtain ⟨rfl, t1, g1, ht1, rfl⟩ := q
  refine px_PW.ret kt_190.2 rfl rfl ?_
  exact ⟨rfl, t1, g1, ht1, rfl⟩
theorem mf_6 {Z : Nat → Int32} {F : Nat → Nat → Int32} (h6 : 0 ≤ Z 6 ∧ (Z 6).toInt ≤ 30) {n own : Nat} (hn : n < 6) (h7 : Z 7 = nI n) (ho : F 0 (12 + 4 * n + 0) = nI own) (hown : own < 7) (x : Int32) : px_PM 10 190 [.ref 1000, .int 6, .int x] ([], px_MH Z F) (fun r h' => r = some (.int ((r_snaps 6 own (Z 7) (F 0 (12 + 4 * n + 1)) x))) ∧ ∃ (t : Int32) (g : Nat → Int32), (0 ≤ t ∧ t.toInt ≤ 30) ∧ h' = ([], px_MH (upd Z 6 t) (va_up F 10 g))) := by
  refine px_PM.start (nL := 3) (code := pc_190) rfl rfl ?_
  refine px_PW.steps kt_190.2 2 rfl ?_
  refine px_PW.at (pc' := 96) rfl ?_
  refine px_PW.steps kt_190.2 2 rfl ?_
  refine px_PW.callS kt_190.2 rfl rfl rfl (mm_above _ _) (by decide) (fun v h1 q => ?_)
  obtain ⟨rfl, rfl⟩ := q
  refine px_PW.steps kt_190.2 1 rfl ?_
  refine px_PW.callV kt_190.2 rfl rfl rfl rfl (mf_3 (Z := Z) (F := F) h6 hn h7 ho hown _) (by decide) (fun v h1 q => ?_)
  obtain ⟨rfl, t1, g1, ht1, rfl⟩ := q
  refine px_PW.ret kt_190.2 rfl rfl ?_
  exact ⟨rfl, t1, g1, ht1, rfl⟩
theorem mfE {Z : Nat → Int32} {F : Nat → Nat → Int32} {K : Nat} (hK : K < 7) {kk : Int32} (hk : kk = nI K) (h6 : 0 ≤ Z 6 ∧ (Z 6).toInt ≤ 30) {n own : Nat} (hn : n < 6) (h7 : Z 7 = nI n) (ho : F 0 (12 + 4 * n + 0) = nI own) (hown : own < 7) (x : Int32) : px_PM 10 190 [.ref 1000, .int kk, .int x] ([], px_MH Z F) (fun r h' => r = some (.int ((r_snaps K own (Z 7) (F 0 (12 + 4 * n + 1)) x))) ∧ ∃ (t : Int32) (g : Nat → Int32), (0 ≤ t ∧ t.toInt ≤ 30) ∧ h' = ([], px_MH (upd Z 6 t) (va_up F 10 g))) := by
  subst hk
  match K, hK with
  | 0, _ => exact (mf_0 h6 hn h7 ho hown x).mono (by decide) (fun _ _ q => q)
  | 1, _ => exact (mf_1 h6 hn h7 ho hown x).mono (by decide) (fun _ _ q => q)
  | 2, _ => exact (mf_2 h6 hn h7 ho hown x).mono (by decide) (fun _ _ q => q)
  | 3, _ => exact (mf_3 h6 hn h7 ho hown x).mono (by decide) (fun _ _ q => q)
  | 4, _ => exact (mf_4 h6 hn h7 ho hown x).mono (by decide) (fun _ _ q => q)
  | 5, _ => exact (mf_5 h6 hn h7 ho hown x).mono (by decide) (fun _ _ q => q)
  | 6, _ => exact (mf_6 h6 hn h7 ho hown x).mono (by decide) (fun _ _ q => q)
theorem zz_ux (f : Nat → Int32) {a b : Nat} (h : a ≠ b) (x y : Int32) : upd (upd f a x) b y = upd (upd f b y) a x := by
  funext j
  unfold upd
  by_cases h1 : j = a
  · subst h1; rw [if_pos rfl, if_neg h, if_pos rfl]
  · rw [if_neg h1, if_neg h1]
theorem mg_0 {Z : Nat → Int32} {F : Nat → Nat → Int32} (h6 : 0 ≤ Z 6 ∧ (Z 6).toInt ≤ 30) {n own : Nat} (hn : n < 6) (h7 : Z 7 = nI n) (ho : F 0 (12 + 4 * n + 0) = nI own) (hown : own < 7) (x : Int32) : px_PM 3 191 [.ref 1000, .int 0, .int x] ([], px_MH Z F) (fun r h' => r = some (.int (r_parts 0 own (Z 7) (F 0 (12 + 4 * n + 1)) x)) ∧ ∃ (t p : Int32) (g : Nat → Int32), (0 ≤ t ∧ t.toInt ≤ 30) ∧ p = (if F 0 (12 + 4 * n + 1) - Z 7 = 0 then 1 else 0) ∧ h' = ([], px_MH (upd (upd Z 6 t) 8 p) (va_up F 10 g))) := by
  refine px_PM.start (nL := 5) (code := pc_191) rfl rfl ?_
  refine px_PW.steps kt_191.2 2 rfl ?_
  refine px_PW.at (pc' := 28) rfl ?_
  refine px_PW.steps kt_191.2 2 rfl ?_
  refine px_PW.callV kt_191.2 rfl rfl rfl rfl (mm_starts (Z := Z) (F := F) h6 _) (by decide) (fun v h1 q => ?_)
  obtain ⟨rfl, t1, g1, ht1, rfl⟩ := q
  refine px_PW.steps kt_191.2 1 rfl ?_
  refine px_PW.callV kt_191.2 rfl rfl rfl rfl (mm_mNow (Z := (upd Z 6 t1)) (F := (va_up F 10 g1)) hn h7) (by decide) (fun v h1 q => ?_)
  obtain ⟨rfl, rfl⟩ := q
  refine px_PW.steps kt_191.2 7 rfl ?_
  refine px_PW.br (fun c0 => ?_) (fun c0 => ?_)
  · have c0 : ¬ (((F 0 (12 + 4 * n + 1)) - (Z 7)) = 0) := of_decide_eq_false (px_nt c0)
    refine px_PW.steps kt_191.2 1 rfl ?_
    refine mo_8 kt_191.2 (by rfl) rfl ?_
    refine px_PW.steps kt_191.2 2 rfl ?_
    refine px_PW.br (fun c1 => ?_) (fun c1 => ?_)
    · have c1 : ¬ (((F 0 (12 + 4 * n + 1)) - (Z 7)) = 0) := of_decide_eq_false (px_nt c1)
      refine px_PW.steps kt_191.2 3 rfl ?_
      refine px_PW.br (fun c2 => ?_) (fun c2 => ?_)
      · have c2 : ¬ (((F 0 (12 + 4 * n + 1)) - (Z 7)) = (-1)) := of_decide_eq_false (px_nt c2)
        refine px_PW.steps kt_191.2 2 rfl ?_
        refine px_PW.bin0 kt_191.2 rfl c0 ?_
        refine px_PW.ret kt_191.2 rfl rfl ?_
        exact ⟨congrArg (fun z => some (Value.int z)) (show r_base (Z 7) (F 0 (12 + 4 * n + 1)) x = (x / ((F 0 (12 + 4 * n + 1)) - (Z 7))) from (if_neg c0).trans (if_neg c2)).symm, t1, _, g1, ht1, (if_neg c0).symm, rfl⟩
      · have c2 : ((F 0 (12 + 4 * n + 1)) - (Z 7)) = (-1) := of_decide_eq_true (px_nf c2)
        refine px_PW.steps kt_191.2 3 rfl ?_
        refine px_PW.ret kt_191.2 rfl rfl ?_
        exact ⟨congrArg (fun z => some (Value.int z)) (show r_base (Z 7) (F 0 (12 + 4 * n + 1)) x = (-x) from (if_neg c0).trans (if_pos c2)).symm, t1, _, g1, ht1, (if_neg c0).symm, rfl⟩
    · have c1 : ((F 0 (12 + 4 * n + 1)) - (Z 7)) = 0 := of_decide_eq_true (px_nf c1)
      exact absurd c1 c0
  · have c0 : ((F 0 (12 + 4 * n + 1)) - (Z 7)) = 0 := of_decide_eq_true (px_nf c0)
    refine px_PW.steps kt_191.2 2 rfl ?_
    refine mo_8 kt_191.2 (by rfl) rfl ?_
    refine px_PW.steps kt_191.2 2 rfl ?_
    refine px_PW.br (fun c3 => ?_) (fun c3 => ?_)
    · have c3 : ¬ (((F 0 (12 + 4 * n + 1)) - (Z 7)) = 0) := of_decide_eq_false (px_nt c3)
      exact absurd c0 c3
    · have c3 : ((F 0 (12 + 4 * n + 1)) - (Z 7)) = 0 := of_decide_eq_true (px_nf c3)
      refine px_PW.steps kt_191.2 2 rfl ?_
      refine px_PW.ret kt_191.2 rfl rfl ?_
      exact ⟨congrArg (fun z => some (Value.int z)) (show r_base (Z 7) (F 0 (12 + 4 * n + 1)) x = 0 from (if_pos c0)).symm, t1, _, g1, ht1, (if_pos c0).symm, rfl⟩
theorem mg_1 {Z : Nat → Int32} {F : Nat → Nat → Int32} (h6 : 0 ≤ Z 6 ∧ (Z 6).toInt ≤ 30) {n own : Nat} (hn : n < 6) (h7 : Z 7 = nI n) (ho : F 0 (12 + 4 * n + 0) = nI own) (hown : own < 7) (x : Int32) : px_PM 8 191 [.ref 1000, .int 1, .int x] ([], px_MH Z F) (fun r h' => r = some (.int (r_parts 1 own (Z 7) (F 0 (12 + 4 * n + 1)) x)) ∧ ∃ (t p : Int32) (g : Nat → Int32), (0 ≤ t ∧ t.toInt ≤ 30) ∧ p = (if F 0 (12 + 4 * n + 1) - Z 7 = 0 then 1 else 0) ∧ h' = ([], px_MH (upd (upd Z 6 t) 8 p) (va_up F 10 g))) := by
  refine px_PM.start (nL := 5) (code := pc_191) rfl rfl ?_
  refine px_PW.steps kt_191.2 2 rfl ?_
  refine px_PW.at (pc' := 79) rfl ?_
  refine px_PW.steps kt_191.2 2 rfl ?_
  refine px_PW.callV kt_191.2 rfl rfl rfl rfl (mm_starts (Z := Z) (F := F) h6 _) (by decide) (fun v h1 q => ?_)
  obtain ⟨rfl, t1, g1, ht1, rfl⟩ := q
  refine px_PW.steps kt_191.2 2 rfl ?_
  refine px_PW.callS kt_191.2 rfl rfl rfl (mm_above _ _) (by decide) (fun v h1 q => ?_)
  obtain ⟨rfl, rfl⟩ := q
  refine px_PW.steps kt_191.2 1 rfl ?_
  refine px_PW.callV kt_191.2 rfl rfl rfl rfl (mg_0 (Z := (upd Z 6 t1)) (F := (va_up F 10 g1)) ht1 hn h7 ho hown _) (by decide) (fun v h1 q => ?_)
  obtain ⟨rfl, t2, p2, g2, ht2, hp2, rfl⟩ := q
  refine px_PW.steps kt_191.2 4 rfl ?_
  refine px_PW.br (fun c0 => ?_) (fun c0 => ?_)
  · have c0 : p2 = 0 := of_decide_eq_true c0
    refine px_PW.steps kt_191.2 3 rfl ?_
    refine px_PW.callV kt_191.2 rfl rfl rfl rfl (mm_kindNow (Z := (upd (upd (upd Z 6 t1) 6 t2) 8 p2)) (F := (va_up (va_up F 10 g1) 10 g2)) hn h7) (by decide) (fun v h1 q => ?_)
    obtain ⟨rfl, rfl⟩ := q
    refine px_PW.steps kt_191.2 1 rfl ?_
    refine px_PW.callV kt_191.2 rfl rfl rfl rfl (meE (Z := (upd (upd (upd Z 6 t1) 6 t2) 8 p2)) (F := (va_up (va_up F 10 g1) 10 g2)) hown (show _ = nI own from ho) ht2 hn h7 ho hown _) (by decide) (fun v h1 q => ?_)
    obtain ⟨rfl, t3, g3, ht3, rfl⟩ := q
    refine px_PW.steps kt_191.2 1 rfl ?_
    refine px_PW.ret kt_191.2 rfl rfl ?_
    have hp2 : p2 = if (F 0 (12 + 4 * n + 1)) - Z 7 = 0 then 1 else 0 := hp2
    have hq : ¬ ((F 0 (12 + 4 * n + 1)) - Z 7 = 0) := fun q => by rw [if_pos q] at hp2; rw [hp2] at c0; exact absurd c0 (by decide)
    exact ⟨congrArg (fun z => some (Value.int z)) (show r_parts 1 own (Z 7) (F 0 (12 + 4 * n + 1)) x = _ from if_neg hq).symm, t3, p2, g3, ht3, hp2, by rw [zz_ux (upd (upd Z 6 t1) 6 t2) (show 8 ≠ 6 by decide), zz_uu, zz_uu, px_up_up, px_up_up]⟩
  · have c0 : ¬ (p2 = 0) := of_decide_eq_false c0
    refine px_PW.steps kt_191.2 2 rfl ?_
    refine px_PW.ret kt_191.2 rfl rfl ?_
    have hp2 : p2 = if (F 0 (12 + 4 * n + 1)) - Z 7 = 0 then 1 else 0 := hp2
    have hq : (F 0 (12 + 4 * n + 1)) - Z 7 = 0 := Decidable.byContradiction (fun q => c0 (by rw [hp2]; exact if_neg q))
    exact ⟨congrArg (fun z => some (Value.int z)) (show r_parts 1 own (Z 7) (F 0 (12 + 4 * n + 1)) x = _ from if_pos hq).symm, t2, p2, g2, ht2, hp2, by rw [zz_uu, px_up_up]⟩
theorem mg_2 {Z : Nat → Int32} {F : Nat → Nat → Int32} (h6 : 0 ≤ Z 6 ∧ (Z 6).toInt ≤ 30) {n own : Nat} (hn : n < 6) (h7 : Z 7 = nI n) (ho : F 0 (12 + 4 * n + 0) = nI own) (hown : own < 7) (x : Int32) : px_PM 4 191 [.ref 1000, .int 2, .int x] ([], px_MH Z F) (fun r h' => r = some (.int (r_parts 2 own (Z 7) (F 0 (12 + 4 * n + 1)) x)) ∧ ∃ (t p : Int32) (g : Nat → Int32), (0 ≤ t ∧ t.toInt ≤ 30) ∧ p = (if F 0 (12 + 4 * n + 1) - Z 7 = 0 then 1 else 0) ∧ h' = ([], px_MH (upd (upd Z 6 t) 8 p) (va_up F 10 g))) := by
  refine px_PM.start (nL := 5) (code := pc_191) rfl rfl ?_
  refine px_PW.steps kt_191.2 2 rfl ?_
  refine px_PW.at (pc' := 120) rfl ?_
  refine px_PW.steps kt_191.2 2 rfl ?_
  refine px_PW.callS kt_191.2 rfl rfl rfl (mm_above _ _) (by decide) (fun v h1 q => ?_)
  obtain ⟨rfl, rfl⟩ := q
  refine px_PW.steps kt_191.2 1 rfl ?_
  refine px_PW.callV kt_191.2 rfl rfl rfl rfl (mg_0 (Z := Z) (F := F) h6 hn h7 ho hown _) (by decide) (fun v h1 q => ?_)
  obtain ⟨rfl, t1, p1, g1, ht1, hp1, rfl⟩ := q
  refine px_PW.ret kt_191.2 rfl rfl ?_
  exact ⟨rfl, t1, p1, g1, ht1, hp1, rfl⟩
theorem mg_3 {Z : Nat → Int32} {F : Nat → Nat → Int32} (h6 : 0 ≤ Z 6 ∧ (Z 6).toInt ≤ 30) {n own : Nat} (hn : n < 6) (h7 : Z 7 = nI n) (ho : F 0 (12 + 4 * n + 0) = nI own) (hown : own < 7) (x : Int32) : px_PM 4 191 [.ref 1000, .int 3, .int x] ([], px_MH Z F) (fun r h' => r = some (.int (r_parts 3 own (Z 7) (F 0 (12 + 4 * n + 1)) x)) ∧ ∃ (t p : Int32) (g : Nat → Int32), (0 ≤ t ∧ t.toInt ≤ 30) ∧ p = (if F 0 (12 + 4 * n + 1) - Z 7 = 0 then 1 else 0) ∧ h' = ([], px_MH (upd (upd Z 6 t) 8 p) (va_up F 10 g))) := by
  refine px_PM.start (nL := 5) (code := pc_191) rfl rfl ?_
  refine px_PW.steps kt_191.2 2 rfl ?_
  refine px_PW.at (pc' := 120) rfl ?_
  refine px_PW.steps kt_191.2 2 rfl ?_
  refine px_PW.callS kt_191.2 rfl rfl rfl (mm_above _ _) (by decide) (fun v h1 q => ?_)
  obtain ⟨rfl, rfl⟩ := q
  refine px_PW.steps kt_191.2 1 rfl ?_
  refine px_PW.callV kt_191.2 rfl rfl rfl rfl (mg_0 (Z := Z) (F := F) h6 hn h7 ho hown _) (by decide) (fun v h1 q => ?_)
  obtain ⟨rfl, t1, p1, g1, ht1, hp1, rfl⟩ := q
  refine px_PW.ret kt_191.2 rfl rfl ?_
  exact ⟨rfl, t1, p1, g1, ht1, hp1, rfl⟩
theorem mg_4 {Z : Nat → Int32} {F : Nat → Nat → Int32} (h6 : 0 ≤ Z 6 ∧ (Z 6).toInt ≤ 30) {n own : Nat} (hn : n < 6) (h7 : Z 7 = nI n) (ho : F 0 (12 + 4 * n + 0) = nI own) (hown : own < 7) (x : Int32) : px_PM 9 191 [.ref 1000, .int 4, .int x] ([], px_MH Z F) (fun r h' => r = some (.int (r_parts 4 own (Z 7) (F 0 (12 + 4 * n + 1)) x)) ∧ ∃ (t p : Int32) (g : Nat → Int32), (0 ≤ t ∧ t.toInt ≤ 30) ∧ p = (if F 0 (12 + 4 * n + 1) - Z 7 = 0 then 1 else 0) ∧ h' = ([], px_MH (upd (upd Z 6 t) 8 p) (va_up F 10 g))) := by
  refine px_PM.start (nL := 5) (code := pc_191) rfl rfl ?_
  refine px_PW.steps kt_191.2 2 rfl ?_
  refine px_PW.at (pc' := 120) rfl ?_
  refine px_PW.steps kt_191.2 2 rfl ?_
  refine px_PW.callS kt_191.2 rfl rfl rfl (mm_above _ _) (by decide) (fun v h1 q => ?_)
  obtain ⟨rfl, rfl⟩ := q
  refine px_PW.steps kt_191.2 1 rfl ?_
  refine px_PW.callV kt_191.2 rfl rfl rfl rfl (mg_1 (Z := Z) (F := F) h6 hn h7 ho hown _) (by decide) (fun v h1 q => ?_)
  obtain ⟨rfl, t1, p1, g1, ht1, hp1, rfl⟩ := q
  refine px_PW.ret kt_191.2 rfl rfl ?_
  exact ⟨rfl, t1, p1, g1, ht1, hp1, rfl⟩
theorem mg_5 {Z : Nat → Int32} {F : Nat → Nat → Int32} (h6 : 0 ≤ Z 6 ∧ (Z 6).toInt ≤ 30) {n own : Nat} (hn : n < 6) (h7 : Z 7 = nI n) (ho : F 0 (12 + 4 * n + 0) = nI own) (hown : own < 7) (x : Int32) : px_PM 5 191 [.ref 1000, .int 5, .int x] ([], px_MH Z F) (fun r h' => r = some (.int (r_parts 5 own (Z 7) (F 0 (12 + 4 * n + 1)) x)) ∧ ∃ (t p : Int32) (g : Nat → Int32), (0 ≤ t ∧ t.toInt ≤ 30) ∧ p = (if F 0 (12 + 4 * n + 1) - Z 7 = 0 then 1 else 0) ∧ h' = ([], px_MH (upd (upd Z 6 t) 8 p) (va_up F 10 g))) := by
  refine px_PM.start (nL := 5) (code := pc_191) rfl rfl ?_
  refine px_PW.steps kt_191.2 2 rfl ?_
  refine px_PW.at (pc' := 120) rfl ?_
  refine px_PW.steps kt_191.2 2 rfl ?_
  refine px_PW.callS kt_191.2 rfl rfl rfl (mm_above _ _) (by decide) (fun v h1 q => ?_)
  obtain ⟨rfl, rfl⟩ := q
  refine px_PW.steps kt_191.2 1 rfl ?_
  refine px_PW.callV kt_191.2 rfl rfl rfl rfl (mg_2 (Z := Z) (F := F) h6 hn h7 ho hown _) (by decide) (fun v h1 q => ?_)
  obtain ⟨rfl, t1, p1, g1, ht1, hp1, rfl⟩ := q
  refine px_PW.ret kt_191.2 rfl rfl ?_
  exact ⟨rfl, t1, p1, g1, ht1, hp1, rfl⟩
theorem mg_6 {Z : Nat → Int32} {F : Nat → Nat → Int32} (h6 : 0 ≤ Z 6 ∧ (Z 6).toInt ≤ 30) {n own : Nat} (hn : n < 6) (h7 : Z 7 = nI n) (ho : F 0 (12 + 4 * n + 0) = nI own) (hown : own < 7) (x : Int32) : px_PM 5 191 [.ref 1000, .int 6, .int x] ([], px_MH Z F) (fun r h' => r = some (.int (r_parts 6 own (Z 7) (F 0 (12 + 4 * n + 1)) x)) ∧ ∃ (t p : Int32) (g : Nat → Int32), (0 ≤ t ∧ t.toInt ≤ 30) ∧ p = (if F 0 (12 + 4 * n + 1) - Z 7 = 0 then 1 else 0) ∧ h' = ([], px_MH (upd (upd Z 6 t) 8 p) (va_up F 10 g))) := by
  refine px_PM.start (nL := 5) (code := pc_191) rfl rfl ?_
  refine px_PW.steps kt_191.2 2 rfl ?_
  refine px_PW.at (pc' := 120) rfl ?_
  refine px_PW.steps kt_191.2 2 rfl ?_
  refine px_PW.callS kt_191.2 rfl rfl rfl (mm_above _ _) (by decide) (fun v h1 q => ?_)
  obtain ⟨rfl, rfl⟩ := q
  refine px_PW.steps kt_191.2 1 rfl ?_
  refine px_PW.callV kt_191.2 rfl rfl rfl rfl (mg_3 (Z := Z) (F := F) h6 hn h7 ho hown _) (by decide) (fun v h1 q => ?_)
  obtain ⟨rfl, t1, p1, g1, ht1, hp1, rfl⟩ := q
  refine px_PW.ret kt_191.2 rfl rfl ?_
  exact ⟨rfl, t1, p1, g1, ht1, hp1, rfl⟩
theorem mgE {Z : Nat → Int32} {F : Nat → Nat → Int32} {K : Nat} (hK : K < 7) {kk : Int32} (hk : kk = nI K) (h6 : 0 ≤ Z 6 ∧ (Z 6).toInt ≤ 30) {n own : Nat} (hn : n < 6) (h7 : Z 7 = nI n) (ho : F 0 (12 + 4 * n + 0) = nI own) (hown : own < 7) (x : Int32) : px_PM 9 191 [.ref 1000, .int kk, .int x] ([], px_MH Z F) (fun r h' => r = some (.int (r_parts K own (Z 7) (F 0 (12 + 4 * n + 1)) x)) ∧ ∃ (t p : Int32) (g : Nat → Int32), (0 ≤ t ∧ t.toInt ≤ 30) ∧ p = (if F 0 (12 + 4 * n + 1) - Z 7 = 0 then 1 else 0) ∧ h' = ([], px_MH (upd (upd Z 6 t) 8 p) (va_up F 10 g))) := by
  subst hk
  match K, hK with
  | 0, _ => exact (mg_0 h6 hn h7 ho hown x).mono (by decide) (fun _ _ q => q)
  | 1, _ => exact (mg_1 h6 hn h7 ho hown x).mono (by decide) (fun _ _ q => q)
  | 2, _ => exact (mg_2 h6 hn h7 ho hown x).mono (by decide) (fun _ _ q => q)
  | 3, _ => exact (mg_3 h6 hn h7 ho hown x).mono (by decide) (fun _ _ q => q)
  | 4, _ => exact (mg_4 h6 hn h7 ho hown x).mono (by decide) (fun _ _ q => q)
  | 5, _ => exact (mg_5 h6 hn h7 ho hown x).mono (by decide) (fun _ _ q => q)
  | 6, _ => exact (mg_6 h6 hn h7 ho hown x).mono (by decide) (fun _ _ q => q)
def s_mvw (own : Nat) (F : Nat → Nat → Int32) (thing voice x : Int32) : Int32 := if voice = 0 then r_drips own thing x else if voice = 1 then r_scores own own thing (F 0 (12 + 4 * thing.toNatClampNeg + 1)) x else if voice = 2 then r_snaps own own thing (F 0 (12 + 4 * thing.toNatClampNeg + 1)) x else if (F 0 (12 + 4 * thing.toNatClampNeg + 1)) - thing = 0 then -1000000000 - 6 else r_parts own own thing (F 0 (12 + 4 * thing.toNatClampNeg + 1)) x
def s_mvoice (F : Nat → Nat → Int32) (thing voice x : Int32) : Int32 := if 0 ≤ thing ∧ thing ≤ F 0 10 - 1 then if 0 ≤ voice ∧ voice ≤ 3 then s_mvw (F 0 (12 + 4 * thing.toNatClampNeg + 0)).toNatClampNeg F thing voice x else -1000000000 - 1 else -1000000000 - 1
theorem kc_mvoice {Z : Nat → Int32} {F : Nat → Nat → Int32} {M : Nat} (hM : F 0 10 = nI M) (hM6 : M ≤ 6) (hkd : ∀ n : Nat, n < M → ∃ kd : Nat, kd < 7 ∧ F 0 (12 + 4 * n + 0) = nI kd) (thing voice x : Int32) : px_PM 11 192 [.ref 1000, .int thing, .int voice, .int x] ([], px_MH Z F) (fun r h' => r = some (.int (s_mvoice F thing voice x)) ∧ ∃ Z' F', px_sm Z F Z' F' ∧ h' = ([], px_MH Z' F')) := by
  refine px_PM.start (nL := 6) (code := pc_192) rfl rfl ?_
  refine px_PW.steps kt_192.2 2 rfl ?_
  refine px_PW.callV kt_192.2 rfl rfl rfl rfl (mm_isThing _) (by decide) (fun v h1 q => ?_)
  obtain ⟨rfl, rfl⟩ := q
  refine px_PW.steps kt_192.2 1 rfl ?_
  refine px_PW.br (fun c0 => ?_) (fun c0 => ?_)
  · have c0 : ¬ (0 ≤ thing ∧ thing ≤ ((F 0) 10) - 1) := px_b1z (of_decide_eq_true c0)
    refine px_PW.steps kt_192.2 2 rfl ?_
    refine px_PW.callV kt_192.2 rfl rfl rfl rfl (mm_error 1 (by decide)) (by decide) (fun v h1 q => ?_)
    obtain ⟨rfl, rfl⟩ := q
    refine px_PW.ret kt_192.2 rfl rfl ?_
    have E : s_mvoice F thing voice x = -1000000000 - 1 := if_neg c0
    rw [E]
    exact ⟨rfl, _, _, px_sm.err, rfl⟩
  · have c0 : 0 ≤ thing ∧ thing ≤ ((F 0) 10) - 1 := px_b1n (of_decide_eq_false c0)
    refine px_PW.steps kt_192.2 3 rfl ?_
    refine px_PW.callS kt_192.2 rfl rfl rfl (cm_117 _ _ _ _) (by decide) (fun v h1 q => ?_)
    obtain ⟨rfl, rfl⟩ := q
    refine px_PW.steps kt_192.2 1 rfl ?_
    refine px_PW.br (fun c1 => ?_) (fun c1 => ?_)
    · have c1 : 0 ≤ voice ∧ voice ≤ 3 := px_b1n (of_decide_eq_false (px_nt c1))
      have hth := px_thN hM hM6 c0
      have hn := hth.2.2
      have h7 := hth.1
      obtain ⟨own, hown, ho⟩ := hkd _ hth.2.1
      have howe : (F 0 (12 + 4 * thing.toNatClampNeg + 0)).toNatClampNeg = own := by rw [ho, nI_clamp (by omega)]
      have h6 : (0 : Int32) ≤ 0 ∧ (0 : Int32).toInt ≤ 30 := by decide
      refine px_PW.steps kt_192.2 2 rfl ?_
      refine mo_6 kt_192.2 rfl ?_
      refine px_PW.steps kt_192.2 2 rfl ?_
      refine mo_7 kt_192.2 rfl ?_
      refine px_PW.steps kt_192.2 2 rfl ?_
      refine mo_8 kt_192.2 (by rfl) rfl ?_
      refine px_PW.steps kt_192.2 1 rfl ?_
      refine px_PW.callV kt_192.2 rfl rfl rfl rfl (mm_kindNow (Z := (upd (upd (upd Z 6 0) 7 thing) 8 0)) (F := F) (n := thing.toNatClampNeg) hn h7) (by decide) (fun v h1 q => ?_)
      obtain ⟨rfl, rfl⟩ := q
      refine px_PW.steps kt_192.2 3 rfl ?_
      refine px_PW.br (fun c2 => ?_) (fun c2 => ?_)
      · have c2 : ¬ (voice = 0) := of_decide_eq_false (px_nt c2)
        refine px_PW.steps kt_192.2 3 rfl ?_
        refine px_PW.br (fun c3 => ?_) (fun c3 => ?_)
        · have c3 : ¬ (voice = 1) := of_decide_eq_false (px_nt c3)
          refine px_PW.steps kt_192.2 3 rfl ?_
          refine px_PW.br (fun c4 => ?_) (fun c4 => ?_)
          · have c4 : ¬ (voice = 2) := of_decide_eq_false (px_nt c4)
            refine px_PW.steps kt_192.2 3 rfl ?_
            refine px_PW.callV kt_192.2 rfl rfl rfl rfl (mgE (Z := (upd (upd (upd Z 6 0) 7 thing) 8 0)) (F := F) hown ho h6 hn h7 ho hown _) (by decide) (fun v h1 q => ?_)
            obtain ⟨rfl, t1, p1, g1, ht1, hp1, rfl⟩ := q
            refine px_PW.steps kt_192.2 4 rfl ?_
            refine px_PW.br (fun c5 => ?_) (fun c5 => ?_)
            · have c5 : p1 = 0 := of_decide_eq_true c5
              refine px_PW.steps kt_192.2 1 rfl ?_
              refine px_PW.ret kt_192.2 rfl rfl ?_
              have hp1 : p1 = if (F 0 (12 + 4 * thing.toNatClampNeg + 1)) - thing = 0 then 1 else 0 := hp1
              have hq : ¬ ((F 0 (12 + 4 * thing.toNatClampNeg + 1)) - thing = 0) := fun q => by rw [if_pos q] at hp1; rw [hp1] at c5; exact absurd c5 (by decide)
              have E : s_mvoice F thing voice x = (r_parts own own thing (F 0 (12 + 4 * thing.toNatClampNeg + 1)) x) := by rw [show s_mvoice F thing voice x = s_mvw (F 0 (12 + 4 * thing.toNatClampNeg + 0)).toNatClampNeg F thing voice x from (if_pos c0).trans (if_pos c1), howe]; exact (if_neg c2).trans ((if_neg c3).trans ((if_neg c4).trans (if_neg hq)))
              rw [E]
              exact ⟨rfl, (upd (upd (upd (upd (upd Z 6 0) 7 thing) 8 0) 6 t1) 8 p1), (va_up F 10 g1), ⟨rfl, fun _ => ht1, rfl, rfl, rfl, rfl, rfl, rfl, rfl⟩, rfl⟩
            · have c5 : ¬ (p1 = 0) := of_decide_eq_false c5
              refine px_PW.steps kt_192.2 2 rfl ?_
              refine px_PW.callV kt_192.2 rfl rfl rfl rfl (mm_error 6 (by decide)) (by decide) (fun v h1 q => ?_)
              obtain ⟨rfl, rfl⟩ := q
              refine px_PW.steps kt_192.2 1 rfl ?_
              refine px_PW.ret kt_192.2 rfl rfl ?_
              have hp1 : p1 = if (F 0 (12 + 4 * thing.toNatClampNeg + 1)) - thing = 0 then 1 else 0 := hp1
              have hq : (F 0 (12 + 4 * thing.toNatClampNeg + 1)) - thing = 0 := Decidable.byContradiction (fun q => c5 (by rw [hp1]; exact if_neg q))
              have E : s_mvoice F thing voice x = -1000000000 - 6 := by rw [show s_mvoice F thing voice x = s_mvw (F 0 (12 + 4 * thing.toNatClampNeg + 0)).toNatClampNeg F thing voice x from (if_pos c0).trans (if_pos c1), howe]; exact (if_neg c2).trans ((if_neg c3).trans ((if_neg c4).trans (if_pos hq)))
              rw [E]
              exact ⟨rfl, _, _, px_sm.tr (⟨rfl, fun _ => ht1, rfl, rfl, rfl, rfl, rfl, rfl, rfl⟩ : px_sm Z F (upd (upd (upd (upd (upd Z 6 0) 7 thing) 8 0) 6 t1) 8 p1) (va_up F 10 g1)) px_sm.err, rfl⟩
          · have c4 : voice = 2 := of_decide_eq_true (px_nf c4)
            refine px_PW.steps kt_192.2 3 rfl ?_
            refine px_PW.callV kt_192.2 rfl rfl rfl rfl (mfE (Z := (upd (upd (upd Z 6 0) 7 thing) 8 0)) (F := F) hown ho h6 hn h7 ho hown _) (by decide) (fun v h1 q => ?_)
            obtain ⟨rfl, t1, g1, ht1, rfl⟩ := q
            refine px_PW.steps kt_192.2 5 rfl ?_
            refine px_PW.br (fun c6 => ?_) (fun c6 => ?_)
            · have c6 : (0 : Int32) = 0 := of_decide_eq_true c6
              refine px_PW.steps kt_192.2 1 rfl ?_
              refine px_PW.ret kt_192.2 rfl rfl ?_
              have E : s_mvoice F thing voice x = (r_snaps own own thing (F 0 (12 + 4 * thing.toNatClampNeg + 1)) x) := by rw [show s_mvoice F thing voice x = s_mvw (F 0 (12 + 4 * thing.toNatClampNeg + 0)).toNatClampNeg F thing voice x from (if_pos c0).trans (if_pos c1), howe]; exact (if_neg c2).trans ((if_neg c3).trans (if_pos c4))
              rw [E]
              exact ⟨rfl, (upd (upd (upd (upd Z 6 0) 7 thing) 8 0) 6 t1), (va_up F 10 g1), ⟨rfl, fun _ => ht1, rfl, rfl, rfl, rfl, rfl, rfl, rfl⟩, rfl⟩
            · have c6 : ¬ ((0 : Int32) = 0) := of_decide_eq_false c6
              exact absurd (rfl : (0 : Int32) = 0) c6
        · have c3 : voice = 1 := of_decide_eq_true (px_nf c3)
          refine px_PW.steps kt_192.2 3 rfl ?_
          refine px_PW.callV kt_192.2 rfl rfl rfl rfl (meE (Z := (upd (upd (upd Z 6 0) 7 thing) 8 0)) (F := F) hown ho h6 hn h7 ho hown _) (by decide) (fun v h1 q => ?_)
          obtain ⟨rfl, t1, g1, ht1, rfl⟩ := q
          refine px_PW.steps kt_192.2 5 rfl ?_
          refine px_PW.br (fun c7 => ?_) (fun c7 => ?_)
          · have c7 : (0 : Int32) = 0 := of_decide_eq_true c7
            refine px_PW.steps kt_192.2 1 rfl ?_
            refine px_PW.ret kt_192.2 rfl rfl ?_
            have E : s_mvoice F thing voice x = (r_scores own own thing (F 0 (12 + 4 * thing.toNatClampNeg + 1)) x) := by rw [show s_mvoice F thing voice x = s_mvw (F 0 (12 + 4 * thing.toNatClampNeg + 0)).toNatClampNeg F thing voice x from (if_pos c0).trans (if_pos c1), howe]; exact (if_neg c2).trans (if_pos c3)
            rw [E]
            exact ⟨rfl, (upd (upd (upd (upd Z 6 0) 7 thing) 8 0) 6 t1), (va_up F 10 g1), ⟨rfl, fun _ => ht1, rfl, rfl, rfl, rfl, rfl, rfl, rfl⟩, rfl⟩
          · have c7 : ¬ ((0 : Int32) = 0) := of_decide_eq_false c7
            exact absurd (rfl : (0 : Int32) = 0) c7
      · have c2 : voice = 0 := of_decide_eq_true (px_nf c2)
        refine px_PW.steps kt_192.2 3 rfl ?_
        refine px_PW.callV kt_192.2 rfl rfl rfl rfl (mdE (Z := (upd (upd (upd Z 6 0) 7 thing) 8 0)) (F := F) hown ho h6 _) (by decide) (fun v h1 q => ?_)
        obtain ⟨rfl, t1, g1, ht1, rfl⟩ := q
        refine px_PW.steps kt_192.2 5 rfl ?_
        refine px_PW.br (fun c8 => ?_) (fun c8 => ?_)
        · have c8 : (0 : Int32) = 0 := of_decide_eq_true c8
          refine px_PW.steps kt_192.2 1 rfl ?_
          refine px_PW.ret kt_192.2 rfl rfl ?_
          have E : s_mvoice F thing voice x = (r_drips own thing x) := by rw [show s_mvoice F thing voice x = s_mvw (F 0 (12 + 4 * thing.toNatClampNeg + 0)).toNatClampNeg F thing voice x from (if_pos c0).trans (if_pos c1), howe]; exact if_pos c2
          rw [E]
          exact ⟨rfl, (upd (upd (upd (upd Z 6 0) 7 thing) 8 0) 6 t1), (va_up F 10 g1), ⟨rfl, fun _ => ht1, rfl, rfl, rfl, rfl, rfl, rfl, rfl⟩, rfl⟩
        · have c8 : ¬ ((0 : Int32) = 0) := of_decide_eq_false c8
          exact absurd (rfl : (0 : Int32) = 0) c8
    · have c1 : ¬ (0 ≤ voice ∧ voice ≤ 3) := px_b1z (of_decide_eq_true (px_nf c1))
      refine px_PW.steps kt_192.2 2 rfl ?_
      refine px_PW.callV kt_192.2 rfl rfl rfl rfl (mm_error 1 (by decide)) (by decide) (fun v h1 q => ?_)
      obtain ⟨rfl, rfl⟩ := q
      refine px_PW.ret kt_192.2 rfl rfl ?_
      have E : s_mvoice F thing voice x = -1000000000 - 1 := (if_pos c0).trans (if_neg c1)
      rw [E]
      exact ⟨rfl, _, _, px_sm.err, rfl⟩
