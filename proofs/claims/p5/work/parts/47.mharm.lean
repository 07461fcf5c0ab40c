theorem r_evs_congr {ok : Int32 → Prop} {nm nm2 : Int32 → Int32} {what v : Nat → Int32} (h : ∀ x : Int32, ok x → nm x = nm2 x) : ∀ (m k d : Nat) (st : List Int32), r_wf ok what v m k d → r_evs nm what v m k st = r_evs nm2 what v m k st
  | 0, _, _, _, _ => rfl
  | m + 1, k, d, st, hw => by
    have e : r_evc nm (what k) (v k) st = r_evc nm2 (what k) (v k) st := by
      unfold r_evc
      by_cases c0 : what k = 0
      · rw [if_pos c0, if_pos c0]
      · rw [if_neg c0, if_neg c0]
        by_cases c1 : what k = 1
        · rw [if_pos c1, if_pos c1, h _ (wz_n hw c1)]
        · rw [if_neg c1, if_neg c1]
    show r_evs nm what v m (k + 1) (r_evc nm (what k) (v k) st) = r_evs nm2 what v m (k + 1) (r_evc nm2 (what k) (v k) st)
    rw [e]
    rcases hw with q | q | q | q
    · exact r_evs_congr h m (k + 1) _ _ q.2
    · exact r_evs_congr h m (k + 1) _ _ q.2.2
    · exact r_evs_congr h m (k + 1) _ _ q.2.2
    · exact r_evs_congr h m (k + 1) _ _ q.2.2
def r_nm0 (a b c v : Int32) : Int32 := if v = 99 then a else if v = 116 then b else c
def s_mtx0 (F : Nat → Nat → Int32) (a b c : Int32) : Int32 := (r_evs (r_nm0 a b c) (fun k => F 0 (37 + 2 * k)) (fun k => F 0 (38 + 2 * k)) (F 0 36).toNatClampNeg 0 []).headD 0
/-- the reference holds no TEXT of the USE, or one whose steps are in order -/
def r_tx0 (F : Nat → Nat → Int32) : Prop := F 0 36 = 0 ∨ ∃ n : Nat, n ≤ 62 ∧ F 0 36 = nI n ∧ r_wf r_ok0 (fun k => F 0 (37 + 2 * k)) (fun k => F 0 (38 + 2 * k)) n 0 0
def s_mtold0 (F : Nat → Nat → Int32) (a b c : Int32) : Int32 := i_held (if 0 < (F 0 36) then s_mtx0 F a b c else (a / 3)) 0 99
theorem mm_told0 {Z : Nat → Int32} {F : Nat → Nat → Int32} (htx : r_tx0 F) (a b c : Int32) : px_PM 3 154 [.ref 1000, .int a, .int b, .int c] ([], px_MH Z F) (fun r h' => r = some (.int (s_mtold0 F a b c)) ∧ ∃ (n6 g7 : Nat → Int32), h' = ([], px_MH Z (va_up (va_up F 6 n6) 7 g7))) := by
  refine px_PM.start (nL := 4) (code := pc_154) rfl rfl ?_
  refine px_PW.steps kt_154.2 4 rfl ?_
  refine ms_6 kt_154.2 rfl (n := 99) rfl (by decide) ?_
  refine px_PW.steps kt_154.2 4 rfl ?_
  refine ms_6 kt_154.2 rfl (n := 116) rfl (by decide) ?_
  rw [px_up_up, px_up_self]
  refine px_PW.steps kt_154.2 4 rfl ?_
  refine ms_6 kt_154.2 rfl (n := 119) rfl (by decide) ?_
  rw [px_up_up, px_up_self]
  refine px_PW.steps kt_154.2 2 rfl ?_
  refine px_PW.callV kt_154.2 rfl rfl rfl rfl (mm_hasText0) (by decide) (fun v h1 q => ?_)
  obtain ⟨rfl, rfl⟩ := q
  refine px_PW.steps kt_154.2 1 rfl ?_
  refine px_PW.br (fun c0 => ?_) (fun c0 => ?_)
  · have c0 : ¬ (0 < (F 0 36)) := px_b1z (of_decide_eq_true c0)
    refine px_PW.steps kt_154.2 5 rfl ?_
    refine px_PW.callS kt_154.2 rfl rfl rfl (mm_held _ _ _ _) (by decide) (fun v h1 q => ?_)
    obtain ⟨rfl, rfl⟩ := q
    refine px_PW.ret kt_154.2 rfl rfl ?_
    have E : s_mtold0 F a b c = (i_held (a / 3) 0 99) := congrArg (fun z => i_held z 0 99) (if_neg c0)
    rw [E]
    exact ⟨rfl, _, F 7, (congrArg (fun z => ([], px_MH Z z)) (px_up_id (va_up F 6 _) 7)).symm⟩
  · have c0 : 0 < (F 0 36) := px_b1n (of_decide_eq_false c0)
    refine px_PW.steps kt_154.2 2 rfl ?_
    have hx := htx.resolve_left (fun q => by rw [q] at c0; exact absurd c0 (by decide))
    obtain ⟨n, hn62, hn, hwf⟩ := hx
    have hnn : (F 0 36).toNatClampNeg = n := by rw [hn, nI_clamp (by omega)]
    refine px_PW.callV kt_154.2 rfl rfl rfl rfl (mm_wk0 (F := (va_up F 6 (upd (upd (upd (F 6) 99 a) 116 b) 119 c))) hn hn62 hwf) (by decide) (fun v h1 q => ?_)
    obtain ⟨rfl, g9, rfl⟩ := q
    rw [show (r_evs (fun v => ((va_up F 6 (upd (upd (upd (F 6) 99 a) 116 b) 119 c))) 6 v.toNatClampNeg) _ _ n 0 []).headD 0 = s_mtx0 F a b c from by unfold s_mtx0; rw [hnn]; exact congrArg (fun l : List Int32 => l.headD 0) (r_evs_congr (ok := r_ok0) (fun x hx => by rcases hx with rfl | rfl | rfl <;> rfl) n 0 0 [] hwf)]
    refine px_PW.steps kt_154.2 3 rfl ?_
    refine px_PW.callS kt_154.2 rfl rfl rfl (mm_held _ _ _ _) (by decide) (fun v h1 q => ?_)
    obtain ⟨rfl, rfl⟩ := q
    refine px_PW.ret kt_154.2 rfl rfl ?_
    have E : s_mtold0 F a b c = (i_held (s_mtx0 F a b c) 0 99) := congrArg (fun z => i_held z 0 99) (if_pos c0)
    rw [E]
    exact ⟨rfl, _, g9, rfl⟩
def r_nm1 (a b c v : Int32) : Int32 := if v = 104 then a else if v = 110 then b else c
def s_mtx1 (F : Nat → Nat → Int32) (a b c : Int32) : Int32 := (r_evs (r_nm1 a b c) (fun k => F 0 (162 + 2 * k)) (fun k => F 0 (163 + 2 * k)) (F 0 161).toNatClampNeg 0 []).headD 0
/-- the reference holds no TEXT of the USE, or one whose steps are in order -/
def r_tx1 (F : Nat → Nat → Int32) : Prop := F 0 161 = 0 ∨ ∃ n : Nat, n ≤ 62 ∧ F 0 161 = nI n ∧ r_wf r_ok1 (fun k => F 0 (162 + 2 * k)) (fun k => F 0 (163 + 2 * k)) n 0 0
def s_mtold1 (F : Nat → Nat → Int32) (a b c : Int32) : Int32 := i_held (if 0 < (F 0 161) then s_mtx1 F a b c else a) (-99) 99
theorem mm_told1 {Z : Nat → Int32} {F : Nat → Nat → Int32} (htx : r_tx1 F) (a b c : Int32) : px_PM 3 155 [.ref 1000, .int a, .int b, .int c] ([], px_MH Z F) (fun r h' => r = some (.int (s_mtold1 F a b c)) ∧ ∃ (n6 g7 : Nat → Int32), h' = ([], px_MH Z (va_up (va_up F 6 n6) 7 g7))) := by
  refine px_PM.start (nL := 4) (code := pc_155) rfl rfl ?_
  refine px_PW.steps kt_155.2 4 rfl ?_
  refine ms_6 kt_155.2 rfl (n := 104) rfl (by decide) ?_
  refine px_PW.steps kt_155.2 4 rfl ?_
  refine ms_6 kt_155.2 rfl (n := 110) rfl (by decide) ?_
  rw [px_up_up, px_up_self]
  refine px_PW.steps kt_155.2 4 rfl ?_
  refine ms_6 kt_155.2 rfl (n := 107) rfl (by decide) ?_
  rw [px_up_up, px_up_self]
  refine px_PW.steps kt_155.2 2 rfl ?_
  refine px_PW.callV kt_155.2 rfl rfl rfl rfl (mm_hasText1) (by decide) (fun v h1 q => ?_)
  obtain ⟨rfl, rfl⟩ := q
  refine px_PW.steps kt_155.2 1 rfl ?_
  refine px_PW.br (fun c0 => ?_) (fun c0 => ?_)
  · have c0 : ¬ (0 < (F 0 161)) := px_b1z (of_decide_eq_true c0)
    refine px_PW.steps kt_155.2 3 rfl ?_
    refine px_PW.callS kt_155.2 rfl rfl rfl (mm_held _ _ _ _) (by decide) (fun v h1 q => ?_)
    obtain ⟨rfl, rfl⟩ := q
    refine px_PW.ret kt_155.2 rfl rfl ?_
    have E : s_mtold1 F a b c = (i_held a (-99) 99) := congrArg (fun z => i_held z (-99) 99) (if_neg c0)
    rw [E]
    exact ⟨rfl, _, F 7, (congrArg (fun z => ([], px_MH Z z)) (px_up_id (va_up F 6 _) 7)).symm⟩
  · have c0 : 0 < (F 0 161) := px_b1n (of_decide_eq_false c0)
    refine px_PW.steps kt_155.2 2 rfl ?_
    have hx := htx.resolve_left (fun q => by rw [q] at c0; exact absurd c0 (by decide))
    obtain ⟨n, hn62, hn, hwf⟩ := hx
    have hnn : (F 0 161).toNatClampNeg = n := by rw [hn, nI_clamp (by omega)]
    refine px_PW.callV kt_155.2 rfl rfl rfl rfl (mm_wk1 (F := (va_up F 6 (upd (upd (upd (F 6) 104 a) 110 b) 107 c))) hn hn62 hwf) (by decide) (fun v h1 q => ?_)
    obtain ⟨rfl, g9, rfl⟩ := q
    rw [show (r_evs (fun v => ((va_up F 6 (upd (upd (upd (F 6) 104 a) 110 b) 107 c))) 6 v.toNatClampNeg) _ _ n 0 []).headD 0 = s_mtx1 F a b c from by unfold s_mtx1; rw [hnn]; exact congrArg (fun l : List Int32 => l.headD 0) (r_evs_congr (ok := r_ok1) (fun x hx => by rcases hx with rfl | rfl | rfl <;> rfl) n 0 0 [] hwf)]
    refine px_PW.steps kt_155.2 3 rfl ?_
    refine px_PW.callS kt_155.2 rfl rfl rfl (mm_held _ _ _ _) (by decide) (fun v h1 q => ?_)
    obtain ⟨rfl, rfl⟩ := q
    refine px_PW.ret kt_155.2 rfl rfl ?_
    have E : s_mtold1 F a b c = (i_held (s_mtx1 F a b c) (-99) 99) := congrArg (fun z => i_held z (-99) 99) (if_pos c0)
    rw [E]
    exact ⟨rfl, _, g9, rfl⟩
theorem zz_sm67 {Z : Nat → Int32} {F : Nat → Nat → Int32} {a b : Nat → Int32} : px_sm Z F Z (va_up (va_up F 6 a) 7 b) := ⟨rfl, fun h => h, rfl, rfl, rfl, rfl, rfl, rfl, rfl⟩
def s_mlaw (F : Nat → Nat → Int32) (use a b c : Int32) : Int32 := (if 0 ≤ use ∧ use ≤ 1 then (if use = 0 then (s_mtold0 F a b c) else (s_mtold1 F a b c)) else (-1000000000 - 1))
theorem kc_mlaw {Z : Nat → Int32} {F : Nat → Nat → Int32} (htx0 : r_tx0 F) (htx1 : r_tx1 F) (use a b c : Int32) : px_PM 4 167 [.ref 1000, .int use, .int a, .int b, .int c] ([], px_MH Z F) (fun r h' => r = some (.int (s_mlaw F use a b c)) ∧ ∃ Z' F', px_sm Z F Z' F' ∧ h' = ([], px_MH Z' F')) := by
  refine px_PM.start (nL := 5) (code := pc_167) rfl rfl ?_
  refine px_PW.steps kt_167.2 3 rfl ?_
  refine px_PW.callS kt_167.2 rfl rfl rfl (cm_117 _ _ _ _) (by decide) (fun v h1 q => ?_)
  obtain ⟨rfl, rfl⟩ := q
  refine px_PW.steps kt_167.2 1 rfl ?_
  refine px_PW.br (fun c0 => ?_) (fun c0 => ?_)
  · have c0 : 0 ≤ use ∧ use ≤ 1 := px_b1n (of_decide_eq_false (px_nt c0))
    refine px_PW.steps kt_167.2 2 rfl ?_
    refine px_PW.br (fun c1 => ?_) (fun c1 => ?_)
    · have c1 : ¬ (use = 0) := of_decide_eq_false (px_nt c1)
      refine px_PW.steps kt_167.2 4 rfl ?_
      refine px_PW.callV kt_167.2 rfl rfl rfl rfl (mm_told1 htx1 _ _ _) (by decide) (fun v h1 q => ?_)
      obtain ⟨rfl, n6, g7, rfl⟩ := q
      refine px_PW.ret kt_167.2 rfl rfl ?_
      have E : s_mlaw F use a b c = (s_mtold1 F a b c) := (if_pos c0).trans (if_neg c1)
      rw [E]
      exact ⟨rfl, _, _, zz_sm67, rfl⟩
    · have c1 : use = 0 := of_decide_eq_true (px_nf c1)
      refine px_PW.steps kt_167.2 4 rfl ?_
      refine px_PW.callV kt_167.2 rfl rfl rfl rfl (mm_told0 htx0 _ _ _) (by decide) (fun v h1 q => ?_)
      obtain ⟨rfl, n6, g7, rfl⟩ := q
      refine px_PW.steps kt_167.2 1 rfl ?_
      refine px_PW.ret kt_167.2 rfl rfl ?_
      have E : s_mlaw F use a b c = (s_mtold0 F a b c) := (if_pos c0).trans (if_pos c1)
      rw [E]
      exact ⟨rfl, _, _, zz_sm67, rfl⟩
  · have c0 : ¬ (0 ≤ use ∧ use ≤ 1) := px_b1z (of_decide_eq_true (px_nf c0))
    refine px_PW.steps kt_167.2 2 rfl ?_
    refine px_PW.callV kt_167.2 rfl rfl rfl rfl (mm_error 1 (by decide)) (by decide) (fun v h1 q => ?_)
    obtain ⟨rfl, rfl⟩ := q
    refine px_PW.ret kt_167.2 rfl rfl ?_
    have E : s_mlaw F use a b c = (-1000000000 - 1) := if_neg c0
    rw [E]
    exact ⟨rfl, _, _, px_sm.err, rfl⟩
def r_jo (Ar Br : Nat → Int32) (P : Nat) (from_ to : Int32) : Int32 := nI (zz_cnt (fun k => decide (¬ (to < Ar k + Br k) ∧ ¬ (Ar (k + 1) < from_))) (P - 1) 0 0)
def r_to (Ar Br : Nat → Int32) (P : Nat) (from_ to : Int32) : Int32 := nI (zz_cnt (fun k => decide (¬ (to ≤ Ar k) ∧ ¬ (Ar k + Br k ≤ from_))) P 0 0)
def r_hi (t : Int32) (Ar Br : Nat → Int32) (P : Nat) (from_ to : Int32) : Int32 := nI (zz_cnt (fun k => decide (¬ (t ≤ Br k) ∧ ¬ (Ar k < from_) ∧ ¬ (to < Ar k + Br k))) P 0 0)
def r_ga (Ar Br : Nat → Int32) (P : Nat) (from_ to : Int32) : Int32 := zz_gp Ar Br from_ to P 0 (s_ap (Ar 0) from_)
def s_mhs (f : Nat → Int32) (Ar Br : Nat → Int32) (P n : Nat) : Int32 := (if (r_jo Ar Br P (f (12 + 4 * n + 2)) ((f (12 + 4 * n + 2)) + (f (12 + 4 * n + 3)))) ≤ 0 then (if 10 ≤ (r_ga Ar Br P (f (12 + 4 * n + 2)) ((f (12 + 4 * n + 2)) + (f (12 + 4 * n + 3)))) then (if (f (12 + 4 * n + 0)) = 1 then 1 else (if (f (12 + 4 * n + 0)) = 2 then ((r_to Ar Br P (f (12 + 4 * n + 2)) ((f (12 + 4 * n + 2)) + (f (12 + 4 * n + 3)))) - 1) else (if (f (12 + 4 * n + 0)) = 3 then (-(r_hi (f 1) Ar Br P (f (12 + 4 * n + 2)) ((f (12 + 4 * n + 2)) + (f (12 + 4 * n + 3))))) else (if (f (12 + 4 * n + 0)) = 4 then (2 * 1) else (if (f (12 + 4 * n + 0)) = 5 then (if 0 ≤ (((r_to Ar Br P (f (12 + 4 * n + 2)) ((f (12 + 4 * n + 2)) + (f (12 + 4 * n + 3)))) - 1) - 1) then (((r_to Ar Br P (f (12 + 4 * n + 2)) ((f (12 + 4 * n + 2)) + (f (12 + 4 * n + 3)))) - 1) - 1) else 0) else (if (f (12 + 4 * n + 0)) = 6 then ((f (12 + 4 * n + 1)) - (r_hi (f 1) Ar Br P (f (12 + 4 * n + 2)) ((f (12 + 4 * n + 2)) + (f (12 + 4 * n + 3))))) else 1)))))) else (if (f (12 + 4 * n + 0)) = 1 then (1 * ((f (12 + 4 * n + 1)) + 1)) else (if (f (12 + 4 * n + 0)) = 2 then ((r_to Ar Br P (f (12 + 4 * n + 2)) ((f (12 + 4 * n + 2)) + (f (12 + 4 * n + 3)))) - 1) else (if (f (12 + 4 * n + 0)) = 3 then (-(r_hi (f 1) Ar Br P (f (12 + 4 * n + 2)) ((f (12 + 4 * n + 2)) + (f (12 + 4 * n + 3))))) else (if (f (12 + 4 * n + 0)) = 4 then (2 * (1 * ((f (12 + 4 * n + 1)) + 1))) else (if (f (12 + 4 * n + 0)) = 5 then (if 0 ≤ (((r_to Ar Br P (f (12 + 4 * n + 2)) ((f (12 + 4 * n + 2)) + (f (12 + 4 * n + 3)))) - 1) - 1) then (((r_to Ar Br P (f (12 + 4 * n + 2)) ((f (12 + 4 * n + 2)) + (f (12 + 4 * n + 3)))) - 1) - 1) else 0) else (if (f (12 + 4 * n + 0)) = 6 then ((f (12 + 4 * n + 1)) - (r_hi (f 1) Ar Br P (f (12 + 4 * n + 2)) ((f (12 + 4 * n + 2)) + (f (12 + 4 * n + 3))))) else 1))))))) else (if 10 ≤ (r_ga Ar Br P (f (12 + 4 * n + 2)) ((f (12 + 4 * n + 2)) + (f (12 + 4 * n + 3)))) then (if (f (12 + 4 * n + 0)) = 1 then 0 else (if (f (12 + 4 * n + 0)) = 2 then ((r_to Ar Br P (f (12 + 4 * n + 2)) ((f (12 + 4 * n + 2)) + (f (12 + 4 * n + 3)))) - 0) else (if (f (12 + 4 * n + 0)) = 3 then (-(r_hi (f 1) Ar Br P (f (12 + 4 * n + 2)) ((f (12 + 4 * n + 2)) + (f (12 + 4 * n + 3))))) else (if (f (12 + 4 * n + 0)) = 4 then (2 * 0) else (if (f (12 + 4 * n + 0)) = 5 then (if 0 ≤ (((r_to Ar Br P (f (12 + 4 * n + 2)) ((f (12 + 4 * n + 2)) + (f (12 + 4 * n + 3)))) - 0) - 1) then (((r_to Ar Br P (f (12 + 4 * n + 2)) ((f (12 + 4 * n + 2)) + (f (12 + 4 * n + 3)))) - 0) - 1) else 0) else (if (f (12 + 4 * n + 0)) = 6 then ((f (12 + 4 * n + 1)) - (r_hi (f 1) Ar Br P (f (12 + 4 * n + 2)) ((f (12 + 4 * n + 2)) + (f (12 + 4 * n + 3))))) else 0)))))) else (if (f (12 + 4 * n + 0)) = 1 then (0 * ((f (12 + 4 * n + 1)) + 1)) else (if (f (12 + 4 * n + 0)) = 2 then ((r_to Ar Br P (f (12 + 4 * n + 2)) ((f (12 + 4 * n + 2)) + (f (12 + 4 * n + 3)))) - 0) else (if (f (12 + 4 * n + 0)) = 3 then (-(r_hi (f 1) Ar Br P (f (12 + 4 * n + 2)) ((f (12 + 4 * n + 2)) + (f (12 + 4 * n + 3))))) else (if (f (12 + 4 * n + 0)) = 4 then (2 * (0 * ((f (12 + 4 * n + 1)) + 1))) else (if (f (12 + 4 * n + 0)) = 5 then (if 0 ≤ (((r_to Ar Br P (f (12 + 4 * n + 2)) ((f (12 + 4 * n + 2)) + (f (12 + 4 * n + 3)))) - 0) - 1) then (((r_to Ar Br P (f (12 + 4 * n + 2)) ((f (12 + 4 * n + 2)) + (f (12 + 4 * n + 3)))) - 0) - 1) else 0) else (if (f (12 + 4 * n + 0)) = 6 then ((f (12 + 4 * n + 1)) - (r_hi (f 1) Ar Br P (f (12 + 4 * n + 2)) ((f (12 + 4 * n + 2)) + (f (12 + 4 * n + 3))))) else 0))))))))
theorem px_swd_153_67 {x : Int32} (c0 : ¬ (x = 1)) (c1 : ¬ (x = 2)) (c2 : ¬ (x = 3)) (c3 : ¬ (x = 4)) (c4 : ¬ (x = 5)) (c5 : ¬ (x = 6)) : px_sw 1 [104, 107, 117, 125, 130, 155] 169 x.toInt = 169 := by
  have d0 : ¬ (x.toInt = 1) := fun h => c0 (px_i_of h (by decide +kernel))
  have d1 : ¬ (x.toInt = 2) := fun h => c1 (px_i_of h (by decide +kernel))
  have d2 : ¬ (x.toInt = 3) := fun h => c2 (px_i_of h (by decide +kernel))
  have d3 : ¬ (x.toInt = 4) := fun h => c3 (px_i_of h (by decide +kernel))
  have d4 : ¬ (x.toInt = 5) := fun h => c4 (px_i_of h (by decide +kernel))
  have d5 : ¬ (x.toInt = 6) := fun h => c5 (px_i_of h (by decide +kernel))
  exact px_sw_d (fun y h1 h2 => by
    have h1 : (1 : Int) ≤ y := h1
    have h2 : y < 7 := h2
    rcases (show y = 1 ∨ y = 2 ∨ y = 3 ∨ y = 4 ∨ y = 5 ∨ y = 6 by omega) with rfl | rfl | rfl | rfl | rfl | rfl
    · exact Or.inl (fun h => d0 h)
    · exact Or.inl (fun h => d1 h)
    · exact Or.inl (fun h => d2 h)
    · exact Or.inl (fun h => d3 h)
    · exact Or.inl (fun h => d4 h)
    · exact Or.inl (fun h => d5 h))
theorem mm_harms {Z f A B : Nat → Int32} {F : Nat → Nat → Int32} {P : Nat} {Ar Br : Nat → Int32} (hP : P ≤ 100) (hP0 : 1 ≤ P) (hAB : ∀ j : Nat, j < P → A j = Ar j ∧ B j = Br j) {n : Nat} {t : Int32} (ht : t = nI n) (hn : n < 6) : px_PM 3 153 [.ref 1000, .int t] ([], px_MH (upd Z 5 (nI P)) (va_up (va_up (va_up F 0 f) 8 A) 9 B)) (fun r h' => r = some (.int (s_mhs f Ar Br P n)) ∧ h' = ([], px_MH (upd Z 5 (nI P)) (va_up (va_up (va_up F 0 f) 8 A) 9 B))) := by
  refine px_PM.start (nL := 7) (code := pc_153) rfl rfl ?_
  refine px_PW.steps kt_153.2 3 rfl ?_
  refine px_PW.callV kt_153.2 rfl rfl rfl rfl (mm_its (n := n) (k := 2) ht rfl hn (by decide)) (by decide) (fun v h1 q => ?_)
  obtain ⟨rfl, rfl⟩ := q
  refine px_PW.steps kt_153.2 5 rfl ?_
  refine px_PW.callV kt_153.2 rfl rfl rfl rfl (mm_its (n := n) (k := 3) ht rfl hn (by decide)) (by decide) (fun v h1 q => ?_)
  obtain ⟨rfl, rfl⟩ := q
  refine px_PW.steps kt_153.2 5 rfl ?_
  refine px_PW.callV kt_153.2 rfl rfl rfl rfl (mm_joints (f := f) hP hAB _ _) (by decide) (fun v h1 q => ?_)
  obtain ⟨rfl, rfl⟩ := q
  refine px_PW.steps kt_153.2 1 rfl ?_
  refine px_PW.br (fun c0 => ?_) (fun c0 => ?_)
  · have c0 : (r_jo Ar Br P (f (12 + 4 * n + 2)) ((f (12 + 4 * n + 2)) + (f (12 + 4 * n + 3)))) ≤ 0 := of_decide_eq_true c0
    refine px_PW.steps kt_153.2 5 rfl ?_
    refine px_PW.callV kt_153.2 rfl rfl rfl rfl (mm_gap (f := f) hP hAB hP0 _ _) (by decide) (fun v h1 q => ?_)
    obtain ⟨rfl, rfl⟩ := q
    refine px_PW.steps kt_153.2 2 rfl ?_
    refine px_PW.br (fun c1 => ?_) (fun c1 => ?_)
    · have c1 : 10 ≤ (r_ga Ar Br P (f (12 + 4 * n + 2)) ((f (12 + 4 * n + 2)) + (f (12 + 4 * n + 3)))) := of_decide_eq_true c1
      refine px_PW.steps kt_153.2 5 rfl ?_
      refine px_PW.callV kt_153.2 rfl rfl rfl rfl (mm_its (n := n) (k := 0) ht rfl hn (by decide)) (by decide) (fun v h1 q => ?_)
      obtain ⟨rfl, rfl⟩ := q
      refine px_PW.steps kt_153.2 1 rfl ?_
      by_cases c2 : (f (12 + 4 * n + 0)) = 1
      · refine px_PW.at (pc' := 104) (show px_sw 1 [104, 107, 117, 125, 130, 155] 169 ((f (12 + 4 * n + 0)) : Int32).toInt = 104 by rw [c2]; rfl) ?_
        refine px_PW.steps kt_153.2 1 rfl ?_
        refine px_PW.ret kt_153.2 rfl rfl ?_
        exact ⟨congrArg (fun z => some (Value.int z)) (show s_mhs f Ar Br P n = 1 from (if_pos c0).trans ((if_pos c1).trans (if_pos c2))).symm, rfl⟩
      · skip
        by_cases c3 : (f (12 + 4 * n + 0)) = 2
        · refine px_PW.at (pc' := 107) (show px_sw 1 [104, 107, 117, 125, 130, 155] 169 ((f (12 + 4 * n + 0)) : Int32).toInt = 107 by rw [c3]; rfl) ?_
          refine px_PW.steps kt_153.2 3 rfl ?_
          refine px_PW.callV kt_153.2 rfl rfl rfl rfl (mm_touches (f := f) hP hAB _ _) (by decide) (fun v h1 q => ?_)
          obtain ⟨rfl, rfl⟩ := q
          refine px_PW.steps kt_153.2 2 rfl ?_
          refine px_PW.ret kt_153.2 rfl rfl ?_
          exact ⟨congrArg (fun z => some (Value.int z)) (show s_mhs f Ar Br P n = ((r_to Ar Br P (f (12 + 4 * n + 2)) ((f (12 + 4 * n + 2)) + (f (12 + 4 * n + 3)))) - 1) from (if_pos c0).trans ((if_pos c1).trans ((if_neg c2).trans (if_pos c3)))).symm, rfl⟩
        · skip
          by_cases c4 : (f (12 + 4 * n + 0)) = 3
          · refine px_PW.at (pc' := 117) (show px_sw 1 [104, 107, 117, 125, 130, 155] 169 ((f (12 + 4 * n + 0)) : Int32).toInt = 117 by rw [c4]; rfl) ?_
            refine px_PW.steps kt_153.2 3 rfl ?_
            refine px_PW.callV kt_153.2 rfl rfl rfl rfl (mm_hides (f := f) hP hAB _ _) (by decide) (fun v h1 q => ?_)
            obtain ⟨rfl, rfl⟩ := q
            refine px_PW.steps kt_153.2 1 rfl ?_
            refine px_PW.ret kt_153.2 rfl rfl ?_
            exact ⟨congrArg (fun z => some (Value.int z)) (show s_mhs f Ar Br P n = (-(r_hi (f 1) Ar Br P (f (12 + 4 * n + 2)) ((f (12 + 4 * n + 2)) + (f (12 + 4 * n + 3))))) from (if_pos c0).trans ((if_pos c1).trans ((if_neg c2).trans ((if_neg c3).trans (if_pos c4))))).symm, rfl⟩
          · skip
            by_cases c5 : (f (12 + 4 * n + 0)) = 4
            · refine px_PW.at (pc' := 125) (show px_sw 1 [104, 107, 117, 125, 130, 155] 169 ((f (12 + 4 * n + 0)) : Int32).toInt = 125 by rw [c5]; rfl) ?_
              refine px_PW.steps kt_153.2 3 rfl ?_
              refine px_PW.ret kt_153.2 rfl rfl ?_
              exact ⟨congrArg (fun z => some (Value.int z)) (show s_mhs f Ar Br P n = (2 * 1) from (if_pos c0).trans ((if_pos c1).trans ((if_neg c2).trans ((if_neg c3).trans ((if_neg c4).trans (if_pos c5)))))).symm, rfl⟩
            · skip
              by_cases c6 : (f (12 + 4 * n + 0)) = 5
              · refine px_PW.at (pc' := 130) (show px_sw 1 [104, 107, 117, 125, 130, 155] 169 ((f (12 + 4 * n + 0)) : Int32).toInt = 130 by rw [c6]; rfl) ?_
                refine px_PW.steps kt_153.2 3 rfl ?_
                refine px_PW.callV kt_153.2 rfl rfl rfl rfl (mm_touches (f := f) hP hAB _ _) (by decide) (fun v h1 q => ?_)
                obtain ⟨rfl, rfl⟩ := q
                refine px_PW.steps kt_153.2 7 rfl ?_
                refine px_PW.br (fun c7 => ?_) (fun c7 => ?_)
                · have c7 : 0 ≤ (((r_to Ar Br P (f (12 + 4 * n + 2)) ((f (12 + 4 * n + 2)) + (f (12 + 4 * n + 3)))) - 1) - 1) := of_decide_eq_true c7
                  refine px_PW.steps kt_153.2 1 rfl ?_
                  refine px_PW.ret kt_153.2 rfl rfl ?_
                  exact ⟨congrArg (fun z => some (Value.int z)) (show s_mhs f Ar Br P n = (((r_to Ar Br P (f (12 + 4 * n + 2)) ((f (12 + 4 * n + 2)) + (f (12 + 4 * n + 3)))) - 1) - 1) from (if_pos c0).trans ((if_pos c1).trans ((if_neg c2).trans ((if_neg c3).trans ((if_neg c4).trans ((if_neg c5).trans ((if_pos c6).trans (if_pos c7)))))))).symm, rfl⟩
                · have c7 : ¬ (0 ≤ (((r_to Ar Br P (f (12 + 4 * n + 2)) ((f (12 + 4 * n + 2)) + (f (12 + 4 * n + 3)))) - 1) - 1)) := of_decide_eq_false c7
                  refine px_PW.steps kt_153.2 2 rfl ?_
                  refine px_PW.ret kt_153.2 rfl rfl ?_
                  exact ⟨congrArg (fun z => some (Value.int z)) (show s_mhs f Ar Br P n = 0 from (if_pos c0).trans ((if_pos c1).trans ((if_neg c2).trans ((if_neg c3).trans ((if_neg c4).trans ((if_neg c5).trans ((if_pos c6).trans (if_neg c7)))))))).symm, rfl⟩
              · skip
                by_cases c8 : (f (12 + 4 * n + 0)) = 6
                · refine px_PW.at (pc' := 155) (show px_sw 1 [104, 107, 117, 125, 130, 155] 169 ((f (12 + 4 * n + 0)) : Int32).toInt = 155 by rw [c8]; rfl) ?_
                  refine px_PW.steps kt_153.2 3 rfl ?_
                  refine px_PW.callV kt_153.2 rfl rfl rfl rfl (mm_its (n := n) (k := 1) ht rfl hn (by decide)) (by decide) (fun v h1 q => ?_)
                  obtain ⟨rfl, rfl⟩ := q
                  refine px_PW.steps kt_153.2 3 rfl ?_
                  refine px_PW.callV kt_153.2 rfl rfl rfl rfl (mm_hides (f := f) hP hAB _ _) (by decide) (fun v h1 q => ?_)
                  obtain ⟨rfl, rfl⟩ := q
                  refine px_PW.steps kt_153.2 1 rfl ?_
                  refine px_PW.ret kt_153.2 rfl rfl ?_
                  exact ⟨congrArg (fun z => some (Value.int z)) (show s_mhs f Ar Br P n = ((f (12 + 4 * n + 1)) - (r_hi (f 1) Ar Br P (f (12 + 4 * n + 2)) ((f (12 + 4 * n + 2)) + (f (12 + 4 * n + 3))))) from (if_pos c0).trans ((if_pos c1).trans ((if_neg c2).trans ((if_neg c3).trans ((if_neg c4).trans ((if_neg c5).trans ((if_neg c6).trans (if_pos c8)))))))).symm, rfl⟩
                · skip
                  refine px_PW.at (px_swd_153_67 c2 c3 c4 c5 c6 c8) ?_
                  refine px_PW.steps kt_153.2 1 rfl ?_
                  refine px_PW.ret kt_153.2 rfl rfl ?_
                  exact ⟨congrArg (fun z => some (Value.int z)) (show s_mhs f Ar Br P n = 1 from (if_pos c0).trans ((if_pos c1).trans ((if_neg c2).trans ((if_neg c3).trans ((if_neg c4).trans ((if_neg c5).trans ((if_neg c6).trans (if_neg c8)))))))).symm, rfl⟩
    · have c1 : ¬ (10 ≤ (r_ga Ar Br P (f (12 + 4 * n + 2)) ((f (12 + 4 * n + 2)) + (f (12 + 4 * n + 3))))) := of_decide_eq_false c1
      refine px_PW.steps kt_153.2 4 rfl ?_
      refine px_PW.callV kt_153.2 rfl rfl rfl rfl (mm_its (n := n) (k := 1) ht rfl hn (by decide)) (by decide) (fun v h1 q => ?_)
      obtain ⟨rfl, rfl⟩ := q
      refine px_PW.steps kt_153.2 8 rfl ?_
      refine px_PW.callV kt_153.2 rfl rfl rfl rfl (mm_its (n := n) (k := 0) ht rfl hn (by decide)) (by decide) (fun v h1 q => ?_)
      obtain ⟨rfl, rfl⟩ := q
      refine px_PW.steps kt_153.2 1 rfl ?_
      by_cases c9 : (f (12 + 4 * n + 0)) = 1
      · refine px_PW.at (pc' := 104) (show px_sw 1 [104, 107, 117, 125, 130, 155] 169 ((f (12 + 4 * n + 0)) : Int32).toInt = 104 by rw [c9]; rfl) ?_
        refine px_PW.steps kt_153.2 1 rfl ?_
        refine px_PW.ret kt_153.2 rfl rfl ?_
        exact ⟨congrArg (fun z => some (Value.int z)) (show s_mhs f Ar Br P n = (1 * ((f (12 + 4 * n + 1)) + 1)) from (if_pos c0).trans ((if_neg c1).trans (if_pos c9))).symm, rfl⟩
      · skip
        by_cases c10 : (f (12 + 4 * n + 0)) = 2
        · refine px_PW.at (pc' := 107) (show px_sw 1 [104, 107, 117, 125, 130, 155] 169 ((f (12 + 4 * n + 0)) : Int32).toInt = 107 by rw [c10]; rfl) ?_
          refine px_PW.steps kt_153.2 3 rfl ?_
          refine px_PW.callV kt_153.2 rfl rfl rfl rfl (mm_touches (f := f) hP hAB _ _) (by decide) (fun v h1 q => ?_)
          obtain ⟨rfl, rfl⟩ := q
          refine px_PW.steps kt_153.2 2 rfl ?_
          refine px_PW.ret kt_153.2 rfl rfl ?_
          exact ⟨congrArg (fun z => some (Value.int z)) (show s_mhs f Ar Br P n = ((r_to Ar Br P (f (12 + 4 * n + 2)) ((f (12 + 4 * n + 2)) + (f (12 + 4 * n + 3)))) - 1) from (if_pos c0).trans ((if_neg c1).trans ((if_neg c9).trans (if_pos c10)))).symm, rfl⟩
        · skip
          by_cases c11 : (f (12 + 4 * n + 0)) = 3
          · refine px_PW.at (pc' := 117) (show px_sw 1 [104, 107, 117, 125, 130, 155] 169 ((f (12 + 4 * n + 0)) : Int32).toInt = 117 by rw [c11]; rfl) ?_
            refine px_PW.steps kt_153.2 3 rfl ?_
            refine px_PW.callV kt_153.2 rfl rfl rfl rfl (mm_hides (f := f) hP hAB _ _) (by decide) (fun v h1 q => ?_)
            obtain ⟨rfl, rfl⟩ := q
            refine px_PW.steps kt_153.2 1 rfl ?_
            refine px_PW.ret kt_153.2 rfl rfl ?_
            exact ⟨congrArg (fun z => some (Value.int z)) (show s_mhs f Ar Br P n = (-(r_hi (f 1) Ar Br P (f (12 + 4 * n + 2)) ((f (12 + 4 * n + 2)) + (f (12 + 4 * n + 3))))) from (if_pos c0).trans ((if_neg c1).trans ((if_neg c9).trans ((if_neg c10).trans (if_pos c11))))).symm, rfl⟩
          · skip
            by_cases c12 : (f (12 + 4 * n + 0)) = 4
            · refine px_PW.at (pc' := 125) (show px_sw 1 [104, 107, 117, 125, 130, 155] 169 ((f (12 + 4 * n + 0)) : Int32).toInt = 125 by rw [c12]; rfl) ?_
              refine px_PW.steps kt_153.2 3 rfl ?_
              refine px_PW.ret kt_153.2 rfl rfl ?_
              exact ⟨congrArg (fun z => some (Value.int z)) (show s_mhs f Ar Br P n = (2 * (1 * ((f (12 + 4 * n + 1)) + 1))) from (if_pos c0).trans ((if_neg c1).trans ((if_neg c9).trans ((if_neg c10).trans ((if_neg c11).trans (if_pos c12)))))).symm, rfl⟩
            · skip
              by_cases c13 : (f (12 + 4 * n + 0)) = 5
              · refine px_PW.at (pc' := 130) (show px_sw 1 [104, 107, 117, 125, 130, 155] 169 ((f (12 + 4 * n + 0)) : Int32).toInt = 130 by rw [c13]; rfl) ?_
                refine px_PW.steps kt_153.2 3 rfl ?_
                refine px_PW.callV kt_153.2 rfl rfl rfl rfl (mm_touches (f := f) hP hAB _ _) (by decide) (fun v h1 q => ?_)
                obtain ⟨rfl, rfl⟩ := q
                refine px_PW.steps kt_153.2 7 rfl ?_
                refine px_PW.br (fun c14 => ?_) (fun c14 => ?_)
                · have c14 : 0 ≤ (((r_to Ar Br P (f (12 + 4 * n + 2)) ((f (12 + 4 * n + 2)) + (f (12 + 4 * n + 3)))) - 1) - 1) := of_decide_eq_true c14
                  refine px_PW.steps kt_153.2 1 rfl ?_
                  refine px_PW.ret kt_153.2 rfl rfl ?_
                  exact ⟨congrArg (fun z => some (Value.int z)) (show s_mhs f Ar Br P n = (((r_to Ar Br P (f (12 + 4 * n + 2)) ((f (12 + 4 * n + 2)) + (f (12 + 4 * n + 3)))) - 1) - 1) from (if_pos c0).trans ((if_neg c1).trans ((if_neg c9).trans ((if_neg c10).trans ((if_neg c11).trans ((if_neg c12).trans ((if_pos c13).trans (if_pos c14)))))))).symm, rfl⟩
                · have c14 : ¬ (0 ≤ (((r_to Ar Br P (f (12 + 4 * n + 2)) ((f (12 + 4 * n + 2)) + (f (12 + 4 * n + 3)))) - 1) - 1)) := of_decide_eq_false c14
                  refine px_PW.steps kt_153.2 2 rfl ?_
                  refine px_PW.ret kt_153.2 rfl rfl ?_
                  exact ⟨congrArg (fun z => some (Value.int z)) (show s_mhs f Ar Br P n = 0 from (if_pos c0).trans ((if_neg c1).trans ((if_neg c9).trans ((if_neg c10).trans ((if_neg c11).trans ((if_neg c12).trans ((if_pos c13).trans (if_neg c14)))))))).symm, rfl⟩
              · skip
                by_cases c15 : (f (12 + 4 * n + 0)) = 6
                · refine px_PW.at (pc' := 155) (show px_sw 1 [104, 107, 117, 125, 130, 155] 169 ((f (12 + 4 * n + 0)) : Int32).toInt = 155 by rw [c15]; rfl) ?_
                  refine px_PW.steps kt_153.2 3 rfl ?_
                  refine px_PW.callV kt_153.2 rfl rfl rfl rfl (mm_its (n := n) (k := 1) ht rfl hn (by decide)) (by decide) (fun v h1 q => ?_)
                  obtain ⟨rfl, rfl⟩ := q
                  refine px_PW.steps kt_153.2 3 rfl ?_
                  refine px_PW.callV kt_153.2 rfl rfl rfl rfl (mm_hides (f := f) hP hAB _ _) (by decide) (fun v h1 q => ?_)
                  obtain ⟨rfl, rfl⟩ := q
                  refine px_PW.steps kt_153.2 1 rfl ?_
                  refine px_PW.ret kt_153.2 rfl rfl ?_
                  exact ⟨congrArg (fun z => some (Value.int z)) (show s_mhs f Ar Br P n = ((f (12 + 4 * n + 1)) - (r_hi (f 1) Ar Br P (f (12 + 4 * n + 2)) ((f (12 + 4 * n + 2)) + (f (12 + 4 * n + 3))))) from (if_pos c0).trans ((if_neg c1).trans ((if_neg c9).trans ((if_neg c10).trans ((if_neg c11).trans ((if_neg c12).trans ((if_neg c13).trans (if_pos c15)))))))).symm, rfl⟩
                · skip
                  refine px_PW.at (px_swd_153_67 c9 c10 c11 c12 c13 c15) ?_
                  refine px_PW.steps kt_153.2 1 rfl ?_
                  refine px_PW.ret kt_153.2 rfl rfl ?_
                  exact ⟨congrArg (fun z => some (Value.int z)) (show s_mhs f Ar Br P n = 1 from (if_pos c0).trans ((if_neg c1).trans ((if_neg c9).trans ((if_neg c10).trans ((if_neg c11).trans ((if_neg c12).trans ((if_neg c13).trans (if_neg c15)))))))).symm, rfl⟩
  · have c0 : ¬ ((r_jo Ar Br P (f (12 + 4 * n + 2)) ((f (12 + 4 * n + 2)) + (f (12 + 4 * n + 3)))) ≤ 0) := of_decide_eq_false c0
    refine px_PW.steps kt_153.2 6 rfl ?_
    refine px_PW.callV kt_153.2 rfl rfl rfl rfl (mm_gap (f := f) hP hAB hP0 _ _) (by decide) (fun v h1 q => ?_)
    obtain ⟨rfl, rfl⟩ := q
    refine px_PW.steps kt_153.2 2 rfl ?_
    refine px_PW.br (fun c16 => ?_) (fun c16 => ?_)
    · have c16 : 10 ≤ (r_ga Ar Br P (f (12 + 4 * n + 2)) ((f (12 + 4 * n + 2)) + (f (12 + 4 * n + 3)))) := of_decide_eq_true c16
      refine px_PW.steps kt_153.2 5 rfl ?_
      refine px_PW.callV kt_153.2 rfl rfl rfl rfl (mm_its (n := n) (k := 0) ht rfl hn (by decide)) (by decide) (fun v h1 q => ?_)
      obtain ⟨rfl, rfl⟩ := q
      refine px_PW.steps kt_153.2 1 rfl ?_
      by_cases c17 : (f (12 + 4 * n + 0)) = 1
      · refine px_PW.at (pc' := 104) (show px_sw 1 [104, 107, 117, 125, 130, 155] 169 ((f (12 + 4 * n + 0)) : Int32).toInt = 104 by rw [c17]; rfl) ?_
        refine px_PW.steps kt_153.2 1 rfl ?_
        refine px_PW.ret kt_153.2 rfl rfl ?_
        exact ⟨congrArg (fun z => some (Value.int z)) (show s_mhs f Ar Br P n = 0 from (if_neg c0).trans ((if_pos c16).trans (if_pos c17))).symm, rfl⟩
      · skip
        by_cases c18 : (f (12 + 4 * n + 0)) = 2
        · refine px_PW.at (pc' := 107) (show px_sw 1 [104, 107, 117, 125, 130, 155] 169 ((f (12 + 4 * n + 0)) : Int32).toInt = 107 by rw [c18]; rfl) ?_
          refine px_PW.steps kt_153.2 3 rfl ?_
          refine px_PW.callV kt_153.2 rfl rfl rfl rfl (mm_touches (f := f) hP hAB _ _) (by decide) (fun v h1 q => ?_)
          obtain ⟨rfl, rfl⟩ := q
          refine px_PW.steps kt_153.2 2 rfl ?_
          refine px_PW.ret kt_153.2 rfl rfl ?_
          exact ⟨congrArg (fun z => some (Value.int z)) (show s_mhs f Ar Br P n = ((r_to Ar Br P (f (12 + 4 * n + 2)) ((f (12 + 4 * n + 2)) + (f (12 + 4 * n + 3)))) - 0) from (if_neg c0).trans ((if_pos c16).trans ((if_neg c17).trans (if_pos c18)))).symm, rfl⟩
        · skip
          by_cases c19 : (f (12 + 4 * n + 0)) = 3
          · refine px_PW.at (pc' := 117) (show px_sw 1 [104, 107, 117, 125, 130, 155] 169 ((f (12 + 4 * n + 0)) : Int32).toInt = 117 by rw [c19]; rfl) ?_
            refine px_PW.steps kt_153.2 3 rfl ?_
            refine px_PW.callV kt_153.2 rfl rfl rfl rfl (mm_hides (f := f) hP hAB _ _) (by decide) (fun v h1 q => ?_)
            obtain ⟨rfl, rfl⟩ := q
            refine px_PW.steps kt_153.2 1 rfl ?_
            refine px_PW.ret kt_153.2 rfl rfl ?_
            exact ⟨congrArg (fun z => some (Value.int z)) (show s_mhs f Ar Br P n = (-(r_hi (f 1) Ar Br P (f (12 + 4 * n + 2)) ((f (12 + 4 * n + 2)) + (f (12 + 4 * n + 3))))) from (if_neg c0).trans ((if_pos c16).trans ((if_neg c17).trans ((if_neg c18).trans (if_pos c19))))).symm, rfl⟩
          · skip
            by_cases c20 : (f (12 + 4 * n + 0)) = 4
            · refine px_PW.at (pc' := 125) (show px_sw 1 [104, 107, 117, 125, 130, 155] 169 ((f (12 + 4 * n + 0)) : Int32).toInt = 125 by rw [c20]; rfl) ?_
              refine px_PW.steps kt_153.2 3 rfl ?_
              refine px_PW.ret kt_153.2 rfl rfl ?_
              exact ⟨congrArg (fun z => some (Value.int z)) (show s_mhs f Ar Br P n = (2 * 0) from (if_neg c0).trans ((if_pos c16).trans ((if_neg c17).trans ((if_neg c18).trans ((if_neg c19).trans (if_pos c20)))))).symm, rfl⟩
            · skip
              by_cases c21 : (f (12 + 4 * n + 0)) = 5
              · refine px_PW.at (pc' := 130) (show px_sw 1 [104, 107, 117, 125, 130, 155] 169 ((f (12 + 4 * n + 0)) : Int32).toInt = 130 by rw [c21]; rfl) ?_
                refine px_PW.steps kt_153.2 3 rfl ?_
                refine px_PW.callV kt_153.2 rfl rfl rfl rfl (mm_touches (f := f) hP hAB _ _) (by decide) (fun v h1 q => ?_)
                obtain ⟨rfl, rfl⟩ := q
                refine px_PW.steps kt_153.2 7 rfl ?_
                refine px_PW.br (fun c22 => ?_) (fun c22 => ?_)
                · have c22 : 0 ≤ (((r_to Ar Br P (f (12 + 4 * n + 2)) ((f (12 + 4 * n + 2)) + (f (12 + 4 * n + 3)))) - 0) - 1) := of_decide_eq_true c22
                  refine px_PW.steps kt_153.2 1 rfl ?_
                  refine px_PW.ret kt_153.2 rfl rfl ?_
                  exact ⟨congrArg (fun z => some (Value.int z)) (show s_mhs f Ar Br P n = (((r_to Ar Br P (f (12 + 4 * n + 2)) ((f (12 + 4 * n + 2)) + (f (12 + 4 * n + 3)))) - 0) - 1) from (if_neg c0).trans ((if_pos c16).trans ((if_neg c17).trans ((if_neg c18).trans ((if_neg c19).trans ((if_neg c20).trans ((if_pos c21).trans (if_pos c22)))))))).symm, rfl⟩
                · have c22 : ¬ (0 ≤ (((r_to Ar Br P (f (12 + 4 * n + 2)) ((f (12 + 4 * n + 2)) + (f (12 + 4 * n + 3)))) - 0) - 1)) := of_decide_eq_false c22
                  refine px_PW.steps kt_153.2 2 rfl ?_
                  refine px_PW.ret kt_153.2 rfl rfl ?_
                  exact ⟨congrArg (fun z => some (Value.int z)) (show s_mhs f Ar Br P n = 0 from (if_neg c0).trans ((if_pos c16).trans ((if_neg c17).trans ((if_neg c18).trans ((if_neg c19).trans ((if_neg c20).trans ((if_pos c21).trans (if_neg c22)))))))).symm, rfl⟩
              · skip
                by_cases c23 : (f (12 + 4 * n + 0)) = 6
                · refine px_PW.at (pc' := 155) (show px_sw 1 [104, 107, 117, 125, 130, 155] 169 ((f (12 + 4 * n + 0)) : Int32).toInt = 155 by rw [c23]; rfl) ?_
                  refine px_PW.steps kt_153.2 3 rfl ?_
                  refine px_PW.callV kt_153.2 rfl rfl rfl rfl (mm_its (n := n) (k := 1) ht rfl hn (by decide)) (by decide) (fun v h1 q => ?_)
                  obtain ⟨rfl, rfl⟩ := q
                  refine px_PW.steps kt_153.2 3 rfl ?_
                  refine px_PW.callV kt_153.2 rfl rfl rfl rfl (mm_hides (f := f) hP hAB _ _) (by decide) (fun v h1 q => ?_)
                  obtain ⟨rfl, rfl⟩ := q
                  refine px_PW.steps kt_153.2 1 rfl ?_
                  refine px_PW.ret kt_153.2 rfl rfl ?_
                  exact ⟨congrArg (fun z => some (Value.int z)) (show s_mhs f Ar Br P n = ((f (12 + 4 * n + 1)) - (r_hi (f 1) Ar Br P (f (12 + 4 * n + 2)) ((f (12 + 4 * n + 2)) + (f (12 + 4 * n + 3))))) from (if_neg c0).trans ((if_pos c16).trans ((if_neg c17).trans ((if_neg c18).trans ((if_neg c19).trans ((if_neg c20).trans ((if_neg c21).trans (if_pos c23)))))))).symm, rfl⟩
                · skip
                  refine px_PW.at (px_swd_153_67 c17 c18 c19 c20 c21 c23) ?_
                  refine px_PW.steps kt_153.2 1 rfl ?_
                  refine px_PW.ret kt_153.2 rfl rfl ?_
                  exact ⟨congrArg (fun z => some (Value.int z)) (show s_mhs f Ar Br P n = 0 from (if_neg c0).trans ((if_pos c16).trans ((if_neg c17).trans ((if_neg c18).trans ((if_neg c19).trans ((if_neg c20).trans ((if_neg c21).trans (if_neg c23)))))))).symm, rfl⟩
    · have c16 : ¬ (10 ≤ (r_ga Ar Br P (f (12 + 4 * n + 2)) ((f (12 + 4 * n + 2)) + (f (12 + 4 * n + 3))))) := of_decide_eq_false c16
      refine px_PW.steps kt_153.2 4 rfl ?_
      refine px_PW.callV kt_153.2 rfl rfl rfl rfl (mm_its (n := n) (k := 1) ht rfl hn (by decide)) (by decide) (fun v h1 q => ?_)
      obtain ⟨rfl, rfl⟩ := q
      refine px_PW.steps kt_153.2 8 rfl ?_
      refine px_PW.callV kt_153.2 rfl rfl rfl rfl (mm_its (n := n) (k := 0) ht rfl hn (by decide)) (by decide) (fun v h1 q => ?_)
      obtain ⟨rfl, rfl⟩ := q
      refine px_PW.steps kt_153.2 1 rfl ?_
      by_cases c24 : (f (12 + 4 * n + 0)) = 1
      · refine px_PW.at (pc' := 104) (show px_sw 1 [104, 107, 117, 125, 130, 155] 169 ((f (12 + 4 * n + 0)) : Int32).toInt = 104 by rw [c24]; rfl) ?_
        refine px_PW.steps kt_153.2 1 rfl ?_
        refine px_PW.ret kt_153.2 rfl rfl ?_
        exact ⟨congrArg (fun z => some (Value.int z)) (show s_mhs f Ar Br P n = (0 * ((f (12 + 4 * n + 1)) + 1)) from (if_neg c0).trans ((if_neg c16).trans (if_pos c24))).symm, rfl⟩
      · skip
        by_cases c25 : (f (12 + 4 * n + 0)) = 2
        · refine px_PW.at (pc' := 107) (show px_sw 1 [104, 107, 117, 125, 130, 155] 169 ((f (12 + 4 * n + 0)) : Int32).toInt = 107 by rw [c25]; rfl) ?_
          refine px_PW.steps kt_153.2 3 rfl ?_
          refine px_PW.callV kt_153.2 rfl rfl rfl rfl (mm_touches (f := f) hP hAB _ _) (by decide) (fun v h1 q => ?_)
          obtain ⟨rfl, rfl⟩ := q
          refine px_PW.steps kt_153.2 2 rfl ?_
          refine px_PW.ret kt_153.2 rfl rfl ?_
          exact ⟨congrArg (fun z => some (Value.int z)) (show s_mhs f Ar Br P n = ((r_to Ar Br P (f (12 + 4 * n + 2)) ((f (12 + 4 * n + 2)) + (f (12 + 4 * n + 3)))) - 0) from (if_neg c0).trans ((if_neg c16).trans ((if_neg c24).trans (if_pos c25)))).symm, rfl⟩
        · skip
          by_cases c26 : (f (12 + 4 * n + 0)) = 3
          · refine px_PW.at (pc' := 117) (show px_sw 1 [104, 107, 117, 125, 130, 155] 169 ((f (12 + 4 * n + 0)) : Int32).toInt = 117 by rw [c26]; rfl) ?_
            refine px_PW.steps kt_153.2 3 rfl ?_
            refine px_PW.callV kt_153.2 rfl rfl rfl rfl (mm_hides (f := f) hP hAB _ _) (by decide) (fun v h1 q => ?_)
            obtain ⟨rfl, rfl⟩ := q
            refine px_PW.steps kt_153.2 1 rfl ?_
            refine px_PW.ret kt_153.2 rfl rfl ?_
            exact ⟨congrArg (fun z => some (Value.int z)) (show s_mhs f Ar Br P n = (-(r_hi (f 1) Ar Br P (f (12 + 4 * n + 2)) ((f (12 + 4 * n + 2)) + (f (12 + 4 * n + 3))))) from (if_neg c0).trans ((if_neg c16).trans ((if_neg c24).trans ((if_neg c25).trans (if_pos c26))))).symm, rfl⟩
          · skip
            by_cases c27 : (f (12 + 4 * n + 0)) = 4
            · refine px_PW.at (pc' := 125) (show px_sw 1 [104, 107, 117, 125, 130, 155] 169 ((f (12 + 4 * n + 0)) : Int32).toInt = 125 by rw [c27]; rfl) ?_
              refine px_PW.steps kt_153.2 3 rfl ?_
              refine px_PW.ret kt_153.2 rfl rfl ?_
              exact ⟨congrArg (fun z => some (Value.int z)) (show s_mhs f Ar Br P n = (2 * (0 * ((f (12 + 4 * n + 1)) + 1))) from (if_neg c0).trans ((if_neg c16).trans ((if_neg c24).trans ((if_neg c25).trans ((if_neg c26).trans (if_pos c27)))))).symm, rfl⟩
            · skip
              by_cases c28 : (f (12 + 4 * n + 0)) = 5
              · refine px_PW.at (pc' := 130) (show px_sw 1 [104, 107, 117, 125, 130, 155] 169 ((f (12 + 4 * n + 0)) : Int32).toInt = 130 by rw [c28]; rfl) ?_
                refine px_PW.steps kt_153.2 3 rfl ?_
                refine px_PW.callV kt_153.2 rfl rfl rfl rfl (mm_touches (f := f) hP hAB _ _) (by decide) (fun v h1 q => ?_)
                obtain ⟨rfl, rfl⟩ := q
                refine px_PW.steps kt_153.2 7 rfl ?_
                refine px_PW.br (fun c29 => ?_) (fun c29 => ?_)
                · have c29 : 0 ≤ (((r_to Ar Br P (f (12 + 4 * n + 2)) ((f (12 + 4 * n + 2)) + (f (12 + 4 * n + 3)))) - 0) - 1) := of_decide_eq_true c29
                  refine px_PW.steps kt_153.2 1 rfl ?_
                  refine px_PW.ret kt_153.2 rfl rfl ?_
                  exact ⟨congrArg (fun z => some (Value.int z)) (show s_mhs f Ar Br P n = (((r_to Ar Br P (f (12 + 4 * n + 2)) ((f (12 + 4 * n + 2)) + (f (12 + 4 * n + 3)))) - 0) - 1) from (if_neg c0).trans ((if_neg c16).trans ((if_neg c24).trans ((if_neg c25).trans ((if_neg c26).trans ((if_neg c27).trans ((if_pos c28).trans (if_pos c29)))))))).symm, rfl⟩
                · have c29 : ¬ (0 ≤ (((r_to Ar Br P (f (12 + 4 * n + 2)) ((f (12 + 4 * n + 2)) + (f (12 + 4 * n + 3)))) - 0) - 1)) := of_decide_eq_false c29
                  refine px_PW.steps kt_153.2 2 rfl ?_
                  refine px_PW.ret kt_153.2 rfl rfl ?_
                  exact ⟨congrArg (fun z => some (Value.int z)) (show s_mhs f Ar Br P n = 0 from (if_neg c0).trans ((if_neg c16).trans ((if_neg c24).trans ((if_neg c25).trans ((if_neg c26).trans ((if_neg c27).trans ((if_pos c28).trans (if_neg c29)))))))).symm, rfl⟩
              · skip
                by_cases c30 : (f (12 + 4 * n + 0)) = 6
                · refine px_PW.at (pc' := 155) (show px_sw 1 [104, 107, 117, 125, 130, 155] 169 ((f (12 + 4 * n + 0)) : Int32).toInt = 155 by rw [c30]; rfl) ?_
                  refine px_PW.steps kt_153.2 3 rfl ?_
                  refine px_PW.callV kt_153.2 rfl rfl rfl rfl (mm_its (n := n) (k := 1) ht rfl hn (by decide)) (by decide) (fun v h1 q => ?_)
                  obtain ⟨rfl, rfl⟩ := q
                  refine px_PW.steps kt_153.2 3 rfl ?_
                  refine px_PW.callV kt_153.2 rfl rfl rfl rfl (mm_hides (f := f) hP hAB _ _) (by decide) (fun v h1 q => ?_)
                  obtain ⟨rfl, rfl⟩ := q
                  refine px_PW.steps kt_153.2 1 rfl ?_
                  refine px_PW.ret kt_153.2 rfl rfl ?_
                  exact ⟨congrArg (fun z => some (Value.int z)) (show s_mhs f Ar Br P n = ((f (12 + 4 * n + 1)) - (r_hi (f 1) Ar Br P (f (12 + 4 * n + 2)) ((f (12 + 4 * n + 2)) + (f (12 + 4 * n + 3))))) from (if_neg c0).trans ((if_neg c16).trans ((if_neg c24).trans ((if_neg c25).trans ((if_neg c26).trans ((if_neg c27).trans ((if_neg c28).trans (if_pos c30)))))))).symm, rfl⟩
                · skip
                  refine px_PW.at (px_swd_153_67 c24 c25 c26 c27 c28 c30) ?_
                  refine px_PW.steps kt_153.2 1 rfl ?_
                  refine px_PW.ret kt_153.2 rfl rfl ?_
                  exact ⟨congrArg (fun z => some (Value.int z)) (show s_mhs f Ar Br P n = 0 from (if_neg c0).trans ((if_neg c16).trans ((if_neg c24).trans ((if_neg c25).trans ((if_neg c26).trans ((if_neg c27).trans ((if_neg c28).trans (if_neg c30)))))))).symm, rfl⟩
theorem zz_c67 {α : Type} (F : Nat → α) (f A B a b : α) : va_up (va_up (va_up (va_up (va_up F 0 f) 8 A) 9 B) 6 a) 7 b = va_up (va_up (va_up (va_up (va_up F 6 a) 7 b) 0 f) 8 A) 9 B := by
  funext j
  unfold va_up
  by_cases h7 : j = 7
  · subst h7; rfl
  · by_cases h6 : j = 6
    · subst h6; rfl
    · by_cases h9 : j = 9
      · subst h9; rfl
      · by_cases h8 : j = 8
        · subst h8; rfl
        · by_cases h0 : j = 0
          · subst h0; rfl
          · simp only [if_neg h7, if_neg h6, if_neg h9, if_neg h8, if_neg h0]
theorem r_tx0_can {F : Nat → Nat → Int32} {f A B : Nat → Int32} (h : r_tx0 (va_up F 0 f)) : r_tx0 (va_up (va_up (va_up F 0 f) 8 A) 9 B) := h
theorem r_tx1_can {F : Nat → Nat → Int32} {f A B : Nat → Int32} (h : r_tx1 (va_up F 0 f)) : r_tx1 (va_up (va_up (va_up F 0 f) 8 A) 9 B) := h
/-- what the TEXT of HARM makes, from the row of numbers alone -/
def s_mt1 (f : Nat → Int32) (a b c : Int32) : Int32 := s_mtold1 (fun _ => f) a b c
theorem s_mt1_eq (F : Nat → Nat → Int32) (a b c : Int32) : s_mtold1 F a b c = s_mt1 (F 0) a b c := rfl
def s_mt0 (f : Nat → Int32) (a b c : Int32) : Int32 := s_mtold0 (fun _ => f) a b c
theorem s_mt0_eq (F : Nat → Nat → Int32) (a b c : Int32) : s_mtold0 F a b c = s_mt0 (F 0) a b c := rfl
def r_txf0 (f : Nat → Int32) : Prop := r_tx0 (fun _ => f)
def r_txf1 (f : Nat → Int32) : Prop := r_tx1 (fun _ => f)
theorem mm_harmOn {Z f A B : Nat → Int32} {F : Nat → Nat → Int32} {P : Nat} {Ar Br : Nat → Int32} (hP : P ≤ 100) (hP0 : 1 ≤ P) (hAB : ∀ j : Nat, j < P → A j = Ar j ∧ B j = Br j) {n : Nat} {t : Int32} (ht : t = nI n) (hn : n < 6) (htx : r_txf1 f) : px_PM 4 156 [.ref 1000, .int t] ([], px_MH (upd Z 5 (nI P)) (va_up (va_up (va_up F 0 f) 8 A) 9 B)) (fun r h' => r = some (.int (s_mt1 f (s_mhs f Ar Br P n) t (f (12 + 4 * n + 0)))) ∧ ∃ (n6 g7 : Nat → Int32), h' = ([], px_MH (upd Z 5 (nI P)) (va_up (va_up (va_up (va_up (va_up F 6 n6) 7 g7) 0 f) 8 A) 9 B))) := by
  refine px_PM.start (nL := 2) (code := pc_156) rfl rfl ?_
  refine px_PW.steps kt_156.2 3 rfl ?_
  refine px_PW.callV kt_156.2 rfl rfl rfl rfl (mm_harms (f := f) hP hP0 hAB ht hn) (by decide) (fun v h1 q => ?_)
  obtain ⟨rfl, rfl⟩ := q
  refine px_PW.steps kt_156.2 4 rfl ?_
  refine px_PW.callV kt_156.2 rfl rfl rfl rfl (mm_its (n := n) (k := 0) ht rfl hn (by decide)) (by decide) (fun v h1 q => ?_)
  obtain ⟨rfl, rfl⟩ := q
  refine px_PW.callV kt_156.2 rfl rfl rfl rfl (mm_told1 (F := (va_up (va_up (va_up F 0 f) 8 A) 9 B)) (show r_txf1 f from htx) _ _ _) (by decide) (fun v h1 q => ?_)
  obtain ⟨rfl, n6, g7, rfl⟩ := q
  refine px_PW.ret kt_156.2 rfl rfl ?_
  exact ⟨rfl, n6, g7, by rw [zz_c67]⟩
