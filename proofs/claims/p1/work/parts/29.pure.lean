theorem law_pure {L : Nat} {xs : Nat → Int32} (hL : L ≤ 6) : ∃ (n : Nat) (h' : px_H), px_loop (px_run px_codes 60 n) (pc_L L xs) n 16 [(2, .ref 1000), (1, .ref 0), (0, .ref 3004)] [] (px_C0, px_M0) = some (some (.int 1), h') := by
  sorry
