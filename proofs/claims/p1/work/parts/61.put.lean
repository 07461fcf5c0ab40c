theorem zz_low {b : Int32} (hb : b = 8 ∨ b = 16 ∨ b = 32) (v : Int32) : s_low b v = (v <<< ((32 - b) &&& 31)) >>> ((32 - b) &&& 31) := by
  unfold s_low
  rcases hb with rfl | rfl | rfl
  · rw [if_pos rfl, show ((32 : Int32) - 8) &&& 31 = 24 from by decide]
    apply Int32.toBitVec_inj.mp
    rw [Int32.toBitVec_shiftRight, Int32.toBitVec_shiftLeft]
    apply BitVec.eq_of_getLsbD_eq
    intro i hi
    have e : (BitVec.smod (24 : Int32).toBitVec 32).toNat = 24 := by decide
    simp [BitVec.getLsbD_signExtend, BitVec.getLsbD_sshiftRight, BitVec.msb_eq_getLsbD_last, e]
    sorry
  · sorry
  · rw [if_neg (by decide), if_neg (by decide), show ((32 : Int32) - 32) &&& 31 = 0 from by decide]
    simp
