theorem i_vc : Claimed_1_1 ∧ Claimed_1_2 := cp_claim (fun G b L xs hK hS hL => by
  obtain ⟨d, h', n', z', h1, h2, h3, h4⟩ := cp_LAW_two G b L xs hK hS hL
  exact ⟨d, h', n', z', h1, by omega, by omega, h4⟩)
