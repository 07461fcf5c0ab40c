def pmc_X1 : px_M := (⟨"FromTheMiddle$Numbers", "<init>", "(I)V"⟩, prog_3_method_1_code, 2, none)
theorem lkc_X1 : px_lk1 pmc_X1 1 := ⟨wq_119, ⟨by decide +kernel, by decide +kernel, by decide +kernel⟩, by decide⟩
def pmc_X5 : px_M := (⟨"FromTheMiddle$Sheet", "<init>", "()V"⟩, prog_7_method_1_code, 1, none)
theorem lkc_X5 : px_lk1 pmc_X5 0 := ⟨wq_182, ⟨by decide +kernel, by decide +kernel, by decide +kernel⟩, by decide⟩
def pmc_X4 : px_M := (⟨"FromTheMiddle$Row", "<init>", "()V"⟩, prog_6_method_1_code, 1, none)
theorem lkc_X4 : px_lk1 pmc_X4 0 := ⟨wq_199, ⟨by decide +kernel, by decide +kernel, by decide +kernel⟩, by decide⟩
def pmc_X2 : px_M := (⟨"FromTheMiddle$Reader", "<init>", "()V"⟩, prog_4_method_1_code, 1, none)
theorem lkc_X2 : px_lk1 pmc_X2 0 := ⟨wq_238, ⟨by decide +kernel, by decide +kernel, by decide +kernel⟩, by decide⟩
def pmc_X3 : px_M := (⟨"FromTheMiddle$Reckoner", "<init>", "()V"⟩, prog_5_method_1_code, 1, none)
theorem lkc_X3 : px_lk1 pmc_X3 0 := ⟨wq_263, ⟨by decide +kernel, by decide +kernel, by decide +kernel⟩, by decide⟩
def pmc_X6 : px_M := (⟨"FromTheMiddle$Voices", "<init>", "()V"⟩, prog_8_method_1_code, 1, none)
theorem lkc_X6 : px_lk1 pmc_X6 0 := ⟨wq_275, ⟨by decide +kernel, by decide +kernel, by decide +kernel⟩, by decide⟩
def pmc_X0 : px_M := (⟨"FromTheMiddle$Kept", "<init>", "()V"⟩, prog_2_method_1_code, 1, none)
theorem lkc_X0 : px_lk1 pmc_X0 0 := ⟨wq_113, ⟨by decide +kernel, by decide +kernel, by decide +kernel⟩, by decide⟩
def pmc_X7 : px_M := (⟨"FromTheMiddle", "<init>", "()V"⟩, prog_1_method_1_code, 1, none)
theorem lkc_X7 : px_lk1 pmc_X7 0 := ⟨wq_105, ⟨by decide +kernel, by decide +kernel, by decide +kernel⟩, by decide⟩
def pmc_X8 : px_M := (⟨"FromTheMiddleModel", "<init>", "()V"⟩, prog_10_method_1_code, 1, none)
theorem lkc_X8 : px_lk1 pmc_X8 0 := ⟨wq_897, ⟨by decide +kernel, by decide +kernel, by decide +kernel⟩, by decide⟩
theorem px_w0_eq : upd (upd (upd (upd (upd (upd (upd (fun _ => (0 : Int32)) 0 2000) 1 150) 2 2) 3 0) 4 1) 5 0) 6 150 = px_w0 := by
  funext j
  match j with
  | 0 => rfl
  | 1 => rfl
  | 2 => rfl
  | 3 => rfl
  | 4 => rfl
  | 5 => rfl
  | 6 => rfl
  | n + 7 => rfl
theorem px_sh_eq (b0 b1 b2 b3 : Nat) : va_up (va_up (va_up (va_up (fun _ => (none : Option Nat)) 0 (some b0)) 1 (some b1)) 2 (some b2)) 3 (some b3) = (fun j => match j with
  | 0 => some b0
  | 1 => some b1
  | 2 => some b2
  | 3 => some b3
  | _ => none) := by
  funext j
  match j with
  | 0 => rfl
  | 1 => rfl
  | 2 => rfl
  | 3 => rfl
  | n + 4 => rfl
theorem px_K0_eq : upd (upd (upd (upd (upd (upd (fun _ => (0 : Int32)) 0 100) 1 50) 2 0) 3 (-9)) 4 1) 5 0 = px_K0 := by
  funext j
  match j with
  | 0 => rfl
  | 1 => rfl
  | 2 => rfl
  | 3 => rfl
  | 4 => rfl
  | 5 => rfl
  | n + 6 => rfl
theorem px_K1_eq : upd (upd (upd (upd (upd (upd (fun _ => (0 : Int32)) 0 4000) 1 200) 2 9) 3 9) 4 8) 5 1 = px_K1 := by
  funext j
  match j with
  | 0 => rfl
  | 1 => rfl
  | 2 => rfl
  | 3 => rfl
  | 4 => rfl
  | 5 => rfl
  | n + 6 => rfl
theorem px_s0_eq : upd (upd (upd (upd (upd (upd (fun _ => (0 : Int32)) 7 1) 0 2000) 1 150) 2 2) 4 1) 6 150 = px_s0 := by
  funext j
  match j with
  | 0 => rfl
  | 1 => rfl
  | 2 => rfl
  | 3 => rfl
  | 4 => rfl
  | 5 => rfl
  | 6 => rfl
  | 7 => rfl
  | n + 8 => rfl
theorem px_e0_eq : upd (upd (upd (upd (upd (upd (upd (fun _ => (0 : Int32)) 0 0) 1 0) 2 0) 3 0) 4 0) 5 0) 6 0 = (fun _ => 0) := by
  funext j
  match j with
  | 0 => rfl
  | 1 => rfl
  | 2 => rfl
  | 3 => rfl
  | 4 => rfl
  | 5 => rfl
  | 6 => rfl
  | n + 7 => rfl
/-- a row of numbers, empty, of a limit -/
abbrev w_num (tc : Nat → ClassId) (o a L : Nat) : va_W := [(o, .inr (1, [.ref a, .int 0])), (a, .inl (tc 0, L, .inl (fun _ => 0)))]
set_option maxRecDepth 100000 in
set_option maxHeartbeats 4000000 in
theorem ci_X1 {l : Launch} {D : va_G} {tc : Nat → ClassId} {ad : Nat → Nat} (o : Nat) {L : Nat} {i : Int32} (h1 : ¬ i < 0) (h2 : i.toNatClampNeg = L) (h3 : L ≤ 1000) : px_CM l D tc ad 2 1 L pmc_X1 [.ref o, .int i] [(o, .inr (1, [.null, .int 0]))] (fun u => [(o, .inr (1, [.ref ((u.getD 0 0)), .int 0])), ((u.getD 0 0), .inl (tc 0, L, .inl (fun _ => 0)))]) := by
  refine cx_of (by decide +kernel) rfl rfl (Nat.le_of_ble_eq_true rfl) (by decide) ?_
  intro p e s m below meth c ls A Q X hin hW hl fin
  have hl : lv_has ls 2 [(0, .ref o), (1, .int i)] := hl
  refine lv_aload_n X.1 X.2.1 (i := 0) (k := 0) (by decide +kernel) rfl (lv_at hl 0 rfl) ?_
  refine k_obj X wq_120 wq_107 wq_108 hl.1 (Nat.le_of_ble_eq_true rfl) (by decide +kernel) ?_
  refine lv_aload_n X.1 X.2.1 (i := 0) (k := 0) (by decide +kernel) rfl (lv_at hl 0 rfl) ?_
  refine lv_iload_n X.1 X.2.1 (i := 1) (k := 1) (by decide +kernel) rfl (lv_at hl 1 rfl) ?_
  refine lv_iconst (n := 0) (v := 0) X.1 X.2.1 (by decide +kernel) (by decide +kernel) ?_
  refine k_max (i := 7) X wq_121 wq_122 wq_88 wq_123 hl.1 (Nat.le_of_ble_eq_true rfl) (Nat.zero_le _) (Nat.zero_le _) (by decide +kernel) ?_
  rw [if_neg h1]
  refine k_newa (L := L) X wq_131 h1 h2 h3 (by show 0 + 1 ≤ 1; omega) (by show 0 + L ≤ L; omega) (by decide +kernel) hW (fun q1 H hW => ?_)
  have hW : cx_Wd D A s.heap [(o, .inr (1, [.null, .int 0])), (q1, .inl (tc 0, L, .inl (fun _ => 0)))] H _ := hW
  refine k_putF (ci := 1) (k := 0) (ty := .array .int) (v := .ref q1) (q0 := 0) X hin rfl rfl inw_1 tyX1_ok nmX1 (by decide) rfl rfl (by decide +kernel) rfl rfl (Nat.le_of_ble_eq_true rfl) wq_124 (by decide +kernel) hW (fun H locs hW => ?_)
  have hW : cx_Wd D A s.heap [(o, .inr (1, [.ref q1, .int 0])), (q1, .inl (tc 0, L, .inl (fun _ => 0)))] H _ := hW
  have hW := cx_sub (ws' := [(o, .inr (1, [.ref q1, .int 0])), (q1, .inl (tc 0, L, .inl (fun _ => 0)))]) [0, 1] (by decide) rfl hW
  refine W.widen (k := 1) (n := L) (by omega) (by omega) ?_
  exact fin [q1] _ _ _ _ hW (by decide +kernel)
set_option maxRecDepth 100000 in
set_option maxHeartbeats 4000000 in
theorem ci_X5 {l : Launch} {D : va_G} {tc : Nat → ClassId} {ad : Nat → Nat} (o : Nat) : px_CM l D tc ad 4 2 26 pmc_X5 [.ref o] [(o, .inr (5, [.null, .int 0]))] (fun u => [(o, .inr (5, [.ref (u.getD 0 0), .int 0])), ((u.getD 0 0), .inr (1, [.ref ((u.getD 1 0)), .int 0])), ((u.getD 1 0), .inl (tc 0, 24, .inl (fun _ => 0)))]) := by
  refine cx_of (by decide +kernel) rfl rfl (Nat.le_of_ble_eq_true rfl) (by decide) ?_
  intro p e s m below meth c ls A Q X hin hW hl fin
  have hl : lv_has ls 1 [(0, .ref o)] := hl
  refine lv_aload_n X.1 X.2.1 (i := 0) (k := 0) (by decide +kernel) rfl (lv_at hl 0 rfl) ?_
  refine k_obj X wq_183 wq_107 wq_108 hl.1 (Nat.le_of_ble_eq_true rfl) (by decide +kernel) ?_
  refine lv_aload_n X.1 X.2.1 (i := 0) (k := 0) (by decide +kernel) rfl (lv_at hl 0 rfl) ?_
  refine k_new (ci := 1) (fs := [.null, .int 0]) tyX1 X rfl inw_1 tyX1_ok wq_184 wq_116 wq_87 (fun j hj => by rcases (show j = 0 ∨ j = 1 by omega) with rfl | rfl <;> rfl) (Nat.le_of_ble_eq_true rfl) (Nat.le_of_ble_eq_true rfl) (by decide +kernel) hW (fun q1 H hW => ?_)
  have hW : cx_Wd D A s.heap [(o, .inr (5, [.null, .int 0])), (q1, .inr (1, [.null, .int 0]))] H _ := hW
  refine lv_dup X.1 X.2.1 (by decide +kernel) rfl ?_
  refine lv_bipush (n := 24) (v := 24) X.1 X.2.1 (by decide +kernel) (by decide +kernel) ?_
  refine k_ctor (as := [.int 24]) (rest := [.ref q1, .ref o]) (wr := [(o, .inr (5, [.null, .int 0]))]) (ci_X1 q1 (L := 24) (i := 24) (by decide) (by decide +kernel) (by decide)) [1] [0] X lkc_X1 rfl rfl wq_185 wq_118 wq_87 rfl rfl (by decide) (by decide) (by decide) rfl (Nat.le_of_ble_eq_true rfl) ⟨Nat.le_of_ble_eq_true rfl, Nat.le_of_ble_eq_true rfl⟩ ⟨Nat.le_of_ble_eq_true rfl, Nat.le_of_ble_eq_true rfl⟩ hl.1 (by decide +kernel) hW (fun u H locs hW => ?_)
  have hW : cx_Wd D A s.heap [(o, .inr (5, [.null, .int 0])), (q1, .inr (1, [.ref ((u.getD 0 0)), .int 0])), ((u.getD 0 0), .inl (tc 0, 24, .inl (fun _ => 0)))] H _ := hW
  generalize u.getD 0 0 = a2 at hW
  refine k_putF (ci := 5) (k := 0) (ty := .object "FromTheMiddle$Numbers") (v := .ref q1) (q0 := 0) X hin rfl rfl inw_5 tyX5_ok nmX5 (by decide) rfl rfl (by decide +kernel) rfl rfl (Nat.le_of_ble_eq_true rfl) wq_186 (by decide +kernel) hW (fun H locs hW => ?_)
  have hW : cx_Wd D A s.heap [(o, .inr (5, [.ref q1, .int 0])), (q1, .inr (1, [.ref a2, .int 0])), (a2, .inl (tc 0, 24, .inl (fun _ => 0)))] H _ := hW
  have hW := cx_sub (ws' := [(o, .inr (5, [.ref q1, .int 0])), (q1, .inr (1, [.ref a2, .int 0])), (a2, .inl (tc 0, 24, .inl (fun _ => 0)))]) [0, 1, 2] (by decide) rfl hW
  refine W.widen (k := 2) (n := 26) (by omega) (by omega) ?_
  exact fin [q1, a2] _ _ _ _ hW (by decide +kernel)
set_option maxRecDepth 100000 in
set_option maxHeartbeats 4000000 in
theorem ci_X4 {l : Launch} {D : va_G} {tc : Nat → ClassId} {ad : Nat → Nat} (o : Nat) : px_CM l D tc ad 2 0 0 pmc_X4 [.ref o] [(o, .inr (4, [.int 0, .int 0, .int 0, .int 0, .int 0, .int 0, .int 0, .int 0, .int 0]))] (fun u => [(o, .inr (4, [.int 0, .int 0, .int 0, .int 0, .int 0, .int 0, .int 0, .int 0, .int 0]))]) := by
  refine cx_of (by decide +kernel) rfl rfl (Nat.le_of_ble_eq_true rfl) (by decide) ?_
  intro p e s m below meth c ls A Q X hin hW hl fin
  have hl : lv_has ls 1 [(0, .ref o)] := hl
  refine lv_aload_n X.1 X.2.1 (i := 0) (k := 0) (by decide +kernel) rfl (lv_at hl 0 rfl) ?_
  refine k_obj X wq_200 wq_107 wq_108 hl.1 (Nat.le_of_ble_eq_true rfl) (by decide +kernel) ?_
  have hW := cx_sub (ws' := [(o, .inr (4, [.int 0, .int 0, .int 0, .int 0, .int 0, .int 0, .int 0, .int 0, .int 0]))]) [0] (by decide) rfl hW
  refine W.widen (k := 0) (n := 0) (by omega) (by omega) ?_
  exact fin [] _ _ _ _ hW (by decide +kernel)
set_option maxRecDepth 100000 in
set_option maxHeartbeats 4000000 in
theorem ci_X2 {l : Launch} {D : va_G} {tc : Nat → ClassId} {ad : Nat → Nat} (o : Nat) : px_CM l D tc ad 4 4 124 pmc_X2 [.ref o] [(o, .inr (2, [.null, .null, .int 0, .int 0, .int 0]))] (fun u => [(o, .inr (2, [.ref (u.getD 0 0), .ref (u.getD 2 0), .int 0, .int 0, .int 0])), ((u.getD 0 0), .inr (1, [.ref ((u.getD 1 0)), .int 0])), ((u.getD 1 0), .inl (tc 0, 60, .inl (fun _ => 0))), ((u.getD 2 0), .inr (1, [.ref ((u.getD 3 0)), .int 0])), ((u.getD 3 0), .inl (tc 0, 60, .inl (fun _ => 0)))]) := by
  refine cx_of (by decide +kernel) rfl rfl (Nat.le_of_ble_eq_true rfl) (by decide) ?_
  intro p e s m below meth c ls A Q X hin hW hl fin
  have hl : lv_has ls 1 [(0, .ref o)] := hl
  refine lv_aload_n X.1 X.2.1 (i := 0) (k := 0) (by decide +kernel) rfl (lv_at hl 0 rfl) ?_
  refine k_obj X wq_239 wq_107 wq_108 hl.1 (Nat.le_of_ble_eq_true rfl) (by decide +kernel) ?_
  refine lv_aload_n X.1 X.2.1 (i := 0) (k := 0) (by decide +kernel) rfl (lv_at hl 0 rfl) ?_
  refine k_new (ci := 1) (fs := [.null, .int 0]) tyX1 X rfl inw_1 tyX1_ok wq_240 wq_116 wq_87 (fun j hj => by rcases (show j = 0 ∨ j = 1 by omega) with rfl | rfl <;> rfl) (Nat.le_of_ble_eq_true rfl) (Nat.le_of_ble_eq_true rfl) (by decide +kernel) hW (fun q1 H hW => ?_)
  have hW : cx_Wd D A s.heap [(o, .inr (2, [.null, .null, .int 0, .int 0, .int 0])), (q1, .inr (1, [.null, .int 0]))] H _ := hW
  refine lv_dup X.1 X.2.1 (by decide +kernel) rfl ?_
  refine lv_bipush (n := 60) (v := 60) X.1 X.2.1 (by decide +kernel) (by decide +kernel) ?_
  refine k_ctor (as := [.int 60]) (rest := [.ref q1, .ref o]) (wr := [(o, .inr (2, [.null, .null, .int 0, .int 0, .int 0]))]) (ci_X1 q1 (L := 60) (i := 60) (by decide) (by decide +kernel) (by decide)) [1] [0] X lkc_X1 rfl rfl wq_241 wq_118 wq_87 rfl rfl (by decide) (by decide) (by decide) rfl (Nat.le_of_ble_eq_true rfl) ⟨Nat.le_of_ble_eq_true rfl, Nat.le_of_ble_eq_true rfl⟩ ⟨Nat.le_of_ble_eq_true rfl, Nat.le_of_ble_eq_true rfl⟩ hl.1 (by decide +kernel) hW (fun u H locs hW => ?_)
  have hW : cx_Wd D A s.heap [(o, .inr (2, [.null, .null, .int 0, .int 0, .int 0])), (q1, .inr (1, [.ref ((u.getD 0 0)), .int 0])), ((u.getD 0 0), .inl (tc 0, 60, .inl (fun _ => 0)))] H _ := hW
  generalize u.getD 0 0 = a2 at hW
  refine k_putF (ci := 2) (k := 0) (ty := .object "FromTheMiddle$Numbers") (v := .ref q1) (q0 := 0) X hin rfl rfl inw_2 tyX2_ok nmX2 (by decide) rfl rfl (by decide +kernel) rfl rfl (Nat.le_of_ble_eq_true rfl) wq_242 (by decide +kernel) hW (fun H locs hW => ?_)
  have hW : cx_Wd D A s.heap [(o, .inr (2, [.ref q1, .null, .int 0, .int 0, .int 0])), (q1, .inr (1, [.ref a2, .int 0])), (a2, .inl (tc 0, 60, .inl (fun _ => 0)))] H _ := hW
  refine lv_aload_n X.1 X.2.1 (i := 0) (k := 0) (by decide +kernel) rfl (lv_at hl 0 rfl) ?_
  refine k_new (ci := 1) (fs := [.null, .int 0]) tyX1 X rfl inw_1 tyX1_ok wq_240 wq_116 wq_87 (fun j hj => by rcases (show j = 0 ∨ j = 1 by omega) with rfl | rfl <;> rfl) (Nat.le_of_ble_eq_true rfl) (Nat.le_of_ble_eq_true rfl) (by decide +kernel) hW (fun q3 H hW => ?_)
  have hW : cx_Wd D A s.heap [(o, .inr (2, [.ref q1, .null, .int 0, .int 0, .int 0])), (q1, .inr (1, [.ref a2, .int 0])), (a2, .inl (tc 0, 60, .inl (fun _ => 0))), (q3, .inr (1, [.null, .int 0]))] H _ := hW
  refine lv_dup X.1 X.2.1 (by decide +kernel) rfl ?_
  refine lv_bipush (n := 60) (v := 60) X.1 X.2.1 (by decide +kernel) (by decide +kernel) ?_
  refine k_ctor (as := [.int 60]) (rest := [.ref q3, .ref o]) (wr := [(o, .inr (2, [.ref q1, .null, .int 0, .int 0, .int 0])), (q1, .inr (1, [.ref a2, .int 0])), (a2, .inl (tc 0, 60, .inl (fun _ => 0)))]) (ci_X1 q3 (L := 60) (i := 60) (by decide) (by decide +kernel) (by decide)) [3] [0, 1, 2] X lkc_X1 rfl rfl wq_241 wq_118 wq_87 rfl rfl (by decide) (by decide) (by decide) rfl (Nat.le_of_ble_eq_true rfl) ⟨Nat.le_of_ble_eq_true rfl, Nat.le_of_ble_eq_true rfl⟩ ⟨Nat.le_of_ble_eq_true rfl, Nat.le_of_ble_eq_true rfl⟩ hl.1 (by decide +kernel) hW (fun u H locs hW => ?_)
  have hW : cx_Wd D A s.heap [(o, .inr (2, [.ref q1, .null, .int 0, .int 0, .int 0])), (q1, .inr (1, [.ref a2, .int 0])), (a2, .inl (tc 0, 60, .inl (fun _ => 0))), (q3, .inr (1, [.ref ((u.getD 0 0)), .int 0])), ((u.getD 0 0), .inl (tc 0, 60, .inl (fun _ => 0)))] H _ := hW
  generalize u.getD 0 0 = a4 at hW
  refine k_putF (ci := 2) (k := 1) (ty := .object "FromTheMiddle$Numbers") (v := .ref q3) (q0 := 0) X hin rfl rfl inw_2 tyX2_ok nmX2 (by decide) rfl rfl (by decide +kernel) rfl rfl (Nat.le_of_ble_eq_true rfl) wq_244 (by decide +kernel) hW (fun H locs hW => ?_)
  have hW : cx_Wd D A s.heap [(o, .inr (2, [.ref q1, .ref q3, .int 0, .int 0, .int 0])), (q1, .inr (1, [.ref a2, .int 0])), (a2, .inl (tc 0, 60, .inl (fun _ => 0))), (q3, .inr (1, [.ref a4, .int 0])), (a4, .inl (tc 0, 60, .inl (fun _ => 0)))] H _ := hW
  have hW := cx_sub (ws' := [(o, .inr (2, [.ref q1, .ref q3, .int 0, .int 0, .int 0])), (q1, .inr (1, [.ref a2, .int 0])), (a2, .inl (tc 0, 60, .inl (fun _ => 0))), (q3, .inr (1, [.ref a4, .int 0])), (a4, .inl (tc 0, 60, .inl (fun _ => 0)))]) [0, 1, 2, 3, 4] (by decide) rfl hW
  refine W.widen (k := 4) (n := 124) (by omega) (by omega) ?_
  exact fin [q1, a2, q3, a4] _ _ _ _ hW (by decide +kernel)
set_option maxRecDepth 100000 in
set_option maxHeartbeats 4000000 in
theorem ci_X3 {l : Launch} {D : va_G} {tc : Nat → ClassId} {ad : Nat → Nat} (o : Nat) : px_CM l D tc ad 4 2 62 pmc_X3 [.ref o] [(o, .inr (3, [.null]))] (fun u => [(o, .inr (3, [.ref (u.getD 0 0)])), ((u.getD 0 0), .inr (1, [.ref ((u.getD 1 0)), .int 0])), ((u.getD 1 0), .inl (tc 0, 60, .inl (fun _ => 0)))]) := by
  refine cx_of (by decide +kernel) rfl rfl (Nat.le_of_ble_eq_true rfl) (by decide) ?_
  intro p e s m below meth c ls A Q X hin hW hl fin
  have hl : lv_has ls 1 [(0, .ref o)] := hl
  refine lv_aload_n X.1 X.2.1 (i := 0) (k := 0) (by decide +kernel) rfl (lv_at hl 0 rfl) ?_
  refine k_obj X wq_264 wq_107 wq_108 hl.1 (Nat.le_of_ble_eq_true rfl) (by decide +kernel) ?_
  refine lv_aload_n X.1 X.2.1 (i := 0) (k := 0) (by decide +kernel) rfl (lv_at hl 0 rfl) ?_
  refine k_new (ci := 1) (fs := [.null, .int 0]) tyX1 X rfl inw_1 tyX1_ok wq_265 wq_116 wq_87 (fun j hj => by rcases (show j = 0 ∨ j = 1 by omega) with rfl | rfl <;> rfl) (Nat.le_of_ble_eq_true rfl) (Nat.le_of_ble_eq_true rfl) (by decide +kernel) hW (fun q1 H hW => ?_)
  have hW : cx_Wd D A s.heap [(o, .inr (3, [.null])), (q1, .inr (1, [.null, .int 0]))] H _ := hW
  refine lv_dup X.1 X.2.1 (by decide +kernel) rfl ?_
  refine lv_bipush (n := 60) (v := 60) X.1 X.2.1 (by decide +kernel) (by decide +kernel) ?_
  refine k_ctor (as := [.int 60]) (rest := [.ref q1, .ref o]) (wr := [(o, .inr (3, [.null]))]) (ci_X1 q1 (L := 60) (i := 60) (by decide) (by decide +kernel) (by decide)) [1] [0] X lkc_X1 rfl rfl wq_266 wq_118 wq_87 rfl rfl (by decide) (by decide) (by decide) rfl (Nat.le_of_ble_eq_true rfl) ⟨Nat.le_of_ble_eq_true rfl, Nat.le_of_ble_eq_true rfl⟩ ⟨Nat.le_of_ble_eq_true rfl, Nat.le_of_ble_eq_true rfl⟩ hl.1 (by decide +kernel) hW (fun u H locs hW => ?_)
  have hW : cx_Wd D A s.heap [(o, .inr (3, [.null])), (q1, .inr (1, [.ref ((u.getD 0 0)), .int 0])), ((u.getD 0 0), .inl (tc 0, 60, .inl (fun _ => 0)))] H _ := hW
  generalize u.getD 0 0 = a2 at hW
  refine k_putF (ci := 3) (k := 0) (ty := .object "FromTheMiddle$Numbers") (v := .ref q1) (q0 := 0) X hin rfl rfl inw_3 tyX3_ok nmX3 (by decide) rfl rfl (by decide +kernel) rfl rfl (Nat.le_of_ble_eq_true rfl) wq_267 (by decide +kernel) hW (fun H locs hW => ?_)
  have hW : cx_Wd D A s.heap [(o, .inr (3, [.ref q1])), (q1, .inr (1, [.ref a2, .int 0])), (a2, .inl (tc 0, 60, .inl (fun _ => 0)))] H _ := hW
  have hW := cx_sub (ws' := [(o, .inr (3, [.ref q1])), (q1, .inr (1, [.ref a2, .int 0])), (a2, .inl (tc 0, 60, .inl (fun _ => 0)))]) [0, 1, 2] (by decide) rfl hW
  refine W.widen (k := 2) (n := 62) (by omega) (by omega) ?_
  exact fin [q1, a2] _ _ _ _ hW (by decide +kernel)
set_option maxRecDepth 100000 in
set_option maxHeartbeats 4000000 in
theorem ci_X6 {l : Launch} {D : va_G} {tc : Nat → ClassId} {ad : Nat → Nat} (o : Nat) : px_CM l D tc ad 4 2 32 pmc_X6 [.ref o] [(o, .inr (6, [.null, .int 0, .int 0, .int 0]))] (fun u => [(o, .inr (6, [.ref (u.getD 0 0), .int 0, .int 0, .int 0])), ((u.getD 0 0), .inr (1, [.ref ((u.getD 1 0)), .int 0])), ((u.getD 1 0), .inl (tc 0, 30, .inl (fun _ => 0)))]) := by
  refine cx_of (by decide +kernel) rfl rfl (Nat.le_of_ble_eq_true rfl) (by decide) ?_
  intro p e s m below meth c ls A Q X hin hW hl fin
  have hl : lv_has ls 1 [(0, .ref o)] := hl
  refine lv_aload_n X.1 X.2.1 (i := 0) (k := 0) (by decide +kernel) rfl (lv_at hl 0 rfl) ?_
  refine k_obj X wq_276 wq_107 wq_108 hl.1 (Nat.le_of_ble_eq_true rfl) (by decide +kernel) ?_
  refine lv_aload_n X.1 X.2.1 (i := 0) (k := 0) (by decide +kernel) rfl (lv_at hl 0 rfl) ?_
  refine k_new (ci := 1) (fs := [.null, .int 0]) tyX1 X rfl inw_1 tyX1_ok wq_277 wq_116 wq_87 (fun j hj => by rcases (show j = 0 ∨ j = 1 by omega) with rfl | rfl <;> rfl) (Nat.le_of_ble_eq_true rfl) (Nat.le_of_ble_eq_true rfl) (by decide +kernel) hW (fun q1 H hW => ?_)
  have hW : cx_Wd D A s.heap [(o, .inr (6, [.null, .int 0, .int 0, .int 0])), (q1, .inr (1, [.null, .int 0]))] H _ := hW
  refine lv_dup X.1 X.2.1 (by decide +kernel) rfl ?_
  refine lv_bipush (n := 30) (v := 30) X.1 X.2.1 (by decide +kernel) (by decide +kernel) ?_
  refine k_ctor (as := [.int 30]) (rest := [.ref q1, .ref o]) (wr := [(o, .inr (6, [.null, .int 0, .int 0, .int 0]))]) (ci_X1 q1 (L := 30) (i := 30) (by decide) (by decide +kernel) (by decide)) [1] [0] X lkc_X1 rfl rfl wq_278 wq_118 wq_87 rfl rfl (by decide) (by decide) (by decide) rfl (Nat.le_of_ble_eq_true rfl) ⟨Nat.le_of_ble_eq_true rfl, Nat.le_of_ble_eq_true rfl⟩ ⟨Nat.le_of_ble_eq_true rfl, Nat.le_of_ble_eq_true rfl⟩ hl.1 (by decide +kernel) hW (fun u H locs hW => ?_)
  have hW : cx_Wd D A s.heap [(o, .inr (6, [.null, .int 0, .int 0, .int 0])), (q1, .inr (1, [.ref ((u.getD 0 0)), .int 0])), ((u.getD 0 0), .inl (tc 0, 30, .inl (fun _ => 0)))] H _ := hW
  generalize u.getD 0 0 = a2 at hW
  refine k_putF (ci := 6) (k := 0) (ty := .object "FromTheMiddle$Numbers") (v := .ref q1) (q0 := 0) X hin rfl rfl inw_6 tyX6_ok nmX6 (by decide) rfl rfl (by decide +kernel) rfl rfl (Nat.le_of_ble_eq_true rfl) wq_279 (by decide +kernel) hW (fun H locs hW => ?_)
  have hW : cx_Wd D A s.heap [(o, .inr (6, [.ref q1, .int 0, .int 0, .int 0])), (q1, .inr (1, [.ref a2, .int 0])), (a2, .inl (tc 0, 30, .inl (fun _ => 0)))] H _ := hW
  have hW := cx_sub (ws' := [(o, .inr (6, [.ref q1, .int 0, .int 0, .int 0])), (q1, .inr (1, [.ref a2, .int 0])), (a2, .inl (tc 0, 30, .inl (fun _ => 0)))]) [0, 1, 2] (by decide) rfl hW
  refine W.widen (k := 2) (n := 32) (by omega) (by omega) ?_
  exact fin [q1, a2] _ _ _ _ hW (by decide +kernel)
