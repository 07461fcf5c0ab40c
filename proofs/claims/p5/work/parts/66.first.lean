/-- as both constructors leave it -/
theorem RR.first0 : RR px_Z0 px_N0 px_F0 (fun _ => 0) px_G0 := by
  have hw : g_wall px_s0 := ⟨2000, 150, 2, 1, 0, 150, rfl, rfl, rfl, rfl, rfl, rfl, by omega, by omega, by omega, by omega, by omega, by omega, by omega, by omega, by omega, by omega, by decide, by decide⟩
  have hr : g_row_ok px_s0 := ⟨hw, ⟨0, by omega, rfl⟩, ⟨0, by omega, rfl⟩, ⟨0, by omega, rfl, fun n hn => absurd hn (Nat.not_lt_zero n)⟩, Or.inl rfl, Or.inl rfl⟩
  have hg : g_rel 0 (px_Z0 0) px_N0 px_F0 px_s0 := by
    refine ⟨fun i hi => ?_, rfl, ⟨rfl, rfl⟩, ⟨rfl, rfl, rfl, rfl⟩, fun n hn => absurd hn (Nat.not_lt_zero n), fun n hn => absurd hn (Nat.not_lt_zero n), fun n hn => absurd hn (Nat.not_lt_zero n)⟩
    rcases (show i = 0 ∨ i = 1 ∨ i = 2 ∨ i = 3 ∨ i = 4 ∨ i = 5 ∨ i = 6 by omega) with rfl | rfl | rfl | rfl | rfl | rfl | rfl <;> rfl
  have hc : px_cw px_N0 := ⟨rfl, rfl, rfl, by decide +kernel⟩
  refine ⟨hc, hr, hg, rfl, fun q => (q rfl).elim, fun k hk => ?_, rfl, rfl, ⟨by decide, by decide⟩, ⟨fun i hi => absurd hi (Nat.not_lt_zero i), g_tu.nil rfl rfl, g_tu.nil rfl rfl⟩, fun q => (q rfl).elim⟩
  rcases (show k = 0 ∨ k = 1 ∨ k = 2 ∨ k = 3 by omega) with rfl | rfl | rfl | rfl <;> exact ⟨rfl, Or.inl rfl, ⟨0, by omega, rfl⟩, fun q => (q rfl).elim⟩
