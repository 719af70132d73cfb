/-! ===== THE CLAIM ===== -/
theorem i_vc : Claimed_1_1 ∧ Claimed_1_2 := cp_claim cp_law
