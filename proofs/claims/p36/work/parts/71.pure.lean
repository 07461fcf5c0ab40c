theorem law_pure {L : Nat} {xs : Nat → Int32} (hL : L ≤ 3072) : ∃ (n : Nat) (h' : px_H), px_loop (px_run px_codes 60 n) (pc_L L xs) n 16 [some (.ref 3004), some (.ref 0), some (.ref 1000), none] [] (px_C0, px_M0) = some (some (.int 1), h') := by
  have hp : px_PW 60 (pc_L L xs) (fun r _ => r = some (.int 1)) 16 [some (.ref 3004), some (.ref 0), some (.ref 1000), none] [] (px_C0, px_M0) := by
    refine px_PW.steps (frL L xs) 2 rfl ?_
    refine lw_loop (by omega) (fun _ => rfl) (fun k i hk hi Z N F Zm G h go => ?_) L 0 (by omega) (by omega) _ _ _ _ _ RR.first0
    match k, hk with
    | 0, _ => exact lw_0 hi (by omega) h go
    | 1, _ => exact lw_1 hi (by omega) h go
    | 2, _ => exact lw_2 hi (by omega) h go
    | 3, _ => exact lw_3 hi (by omega) h go
    | 4, _ => exact lw_4 hi (by omega) h go
    | 5, _ => exact lw_5 hi (by omega) h go
    | 6, _ => exact lw_6 hi (by omega) h go
    | 7, _ => exact lw_7 hi (by omega) h go
    | 8, _ => exact lw_8 hi (by omega) h go
    | 9, _ => exact lw_9 hi (by omega) h go
    | 10, _ => exact lw_10 hi (by omega) h go
    | 11, _ => exact lw_11 hi (by omega) h go
    | 12, _ => exact lw_12 hi (by omega) h go
    | 13, _ => exact lw_13 hi (by omega) h go
    | 14, _ => exact lw_14 hi (by omega) h go
    | 15, _ => exact lw_15 hi (by omega) h go
    | 16, _ => exact lw_16 hi (by omega) h go
    | 17, _ => exact lw_17 hi (by omega) h go
    | 18, _ => exact lw_18 hi (by omega) h go
    | 19, _ => exact lw_19 hi (by omega) h go
    | 20, _ => exact lw_20 hi (by omega) h go
    | 21, _ => exact lw_21 hi (by omega) h go
    | 22, _ => exact lw_22 hi (by omega) h go
    | 23, _ => exact lw_23 hi (by omega) h go
    | 24, _ => exact lw_24 hi (by omega) h go
    | 25, _ => exact lw_25 hi (by omega) h go
    | 26, _ => exact lw_26 hi (by omega) h go
    | 27, _ => exact lw_27 hi (by omega) h go
    | 28, _ => exact lw_28 hi (by omega) h go
    | 29, _ => exact lw_29 hi (by omega) h go
    | 30, _ => exact lw_30 hi (by omega) h go
    | 31, _ => exact lw_31 hi (by omega) h go
    | 32, _ => exact lw_32 hi (by omega) h go
    | 33, _ => exact lw_33 hi (by omega) h go
    | 34, _ => exact lw_34 hi (by omega) h go
    | 35, _ => exact lw_35 hi (by omega) h go
    | 36, _ => exact lw_36 hi (by omega) h go
    | k + 37, hk => exact absurd hk (by omega)
  obtain ⟨n, v, h', h1, rfl⟩ := hp
  exact ⟨n, h', h1⟩
