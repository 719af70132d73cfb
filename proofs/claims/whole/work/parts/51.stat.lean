/-! ===== the reference's static methods ===== -/
theorem SC_isVariable (x : Int32) : SC m_M_isVariable [.int x] (some (.int (if 97 ≤ x ∧ x ≤ 122 then 1 else 0))) := by
  intro G h n z d
  refine cp_C.of rfl (Nat.le_of_ble_eq_true rfl) ?_
  refine vv_iload_n (pc := 0) d_M_isVariable_0 rfl ?_
  refine vv_bipush (pc := 1) (v := 97) d_M_isVariable_1 rfl ?_
  refine vv_icmp_lt (pc := 3) (tgt := 16) d_M_isVariable_3 rfl (fun hc => ?_) (fun hc => ?_)
  · rw [if_neg (fun hh => Int32.not_le.mpr hc hh.1)]
    refine vv_iconst (pc := 16) (v := 0) d_M_isVariable_16 rfl ?_
    exact vv_zret (pc := 17) d_M_isVariable_17 rfl rfl
  · refine vv_iload_n (pc := 6) d_M_isVariable_6 rfl ?_
    refine vv_bipush (pc := 7) (v := 122) d_M_isVariable_7 rfl ?_
    refine vv_icmp_gt (pc := 9) (tgt := 16) d_M_isVariable_9 rfl (fun hc2 => ?_) (fun hc2 => ?_)
    · rw [if_neg (fun hh => Int32.not_le.mpr hc2 hh.2)]
      refine vv_iconst (pc := 16) (v := 0) d_M_isVariable_16 rfl ?_
      exact vv_zret (pc := 17) d_M_isVariable_17 rfl rfl
    · rw [if_pos ⟨Int32.not_lt.mp hc, Int32.not_lt.mp hc2⟩]
      refine vv_iconst (pc := 12) (v := 1) d_M_isVariable_12 rfl ?_
      refine vv_goto (pc := 13) (tgt := 17) d_M_isVariable_13 rfl ?_
      exact vv_zret (pc := 17) d_M_isVariable_17 rfl rfl
theorem SC_isLetter (x : Int32) : SC m_M_isLetter [.int x] (some (.int (if 65 ≤ x ∧ x ≤ 90 then 1 else 0))) := by
  intro G h n z d
  refine cp_C.of rfl (Nat.le_of_ble_eq_true rfl) ?_
  refine vv_iload_n (pc := 0) d_M_isLetter_0 rfl ?_
  refine vv_bipush (pc := 1) (v := 65) d_M_isLetter_1 rfl ?_
  refine vv_icmp_lt (pc := 3) (tgt := 16) d_M_isLetter_3 rfl (fun hc => ?_) (fun hc => ?_)
  · rw [if_neg (fun hh => Int32.not_le.mpr hc hh.1)]
    refine vv_iconst (pc := 16) (v := 0) d_M_isLetter_16 rfl ?_
    exact vv_zret (pc := 17) d_M_isLetter_17 rfl rfl
  · refine vv_iload_n (pc := 6) d_M_isLetter_6 rfl ?_
    refine vv_bipush (pc := 7) (v := 90) d_M_isLetter_7 rfl ?_
    refine vv_icmp_gt (pc := 9) (tgt := 16) d_M_isLetter_9 rfl (fun hc2 => ?_) (fun hc2 => ?_)
    · rw [if_neg (fun hh => Int32.not_le.mpr hc2 hh.2)]
      refine vv_iconst (pc := 16) (v := 0) d_M_isLetter_16 rfl ?_
      exact vv_zret (pc := 17) d_M_isLetter_17 rfl rfl
    · rw [if_pos ⟨Int32.not_lt.mp hc, Int32.not_lt.mp hc2⟩]
      refine vv_iconst (pc := 12) (v := 1) d_M_isLetter_12 rfl ?_
      refine vv_goto (pc := 13) (tgt := 17) d_M_isLetter_13 rfl ?_
      exact vv_zret (pc := 17) d_M_isLetter_17 rfl rfl
theorem SC_isDigit (x : Int32) : SC m_M_isDigit [.int x] (some (.int (if 48 ≤ x ∧ x ≤ 57 then 1 else 0))) := by
  intro G h n z d
  refine cp_C.of rfl (Nat.le_of_ble_eq_true rfl) ?_
  refine vv_iload_n (pc := 0) d_M_isDigit_0 rfl ?_
  refine vv_bipush (pc := 1) (v := 48) d_M_isDigit_1 rfl ?_
  refine vv_icmp_lt (pc := 3) (tgt := 16) d_M_isDigit_3 rfl (fun hc => ?_) (fun hc => ?_)
  · rw [if_neg (fun hh => Int32.not_le.mpr hc hh.1)]
    refine vv_iconst (pc := 16) (v := 0) d_M_isDigit_16 rfl ?_
    exact vv_zret (pc := 17) d_M_isDigit_17 rfl rfl
  · refine vv_iload_n (pc := 6) d_M_isDigit_6 rfl ?_
    refine vv_bipush (pc := 7) (v := 57) d_M_isDigit_7 rfl ?_
    refine vv_icmp_gt (pc := 9) (tgt := 16) d_M_isDigit_9 rfl (fun hc2 => ?_) (fun hc2 => ?_)
    · rw [if_neg (fun hh => Int32.not_le.mpr hc2 hh.2)]
      refine vv_iconst (pc := 16) (v := 0) d_M_isDigit_16 rfl ?_
      exact vv_zret (pc := 17) d_M_isDigit_17 rfl rfl
    · rw [if_pos ⟨Int32.not_lt.mp hc, Int32.not_lt.mp hc2⟩]
      refine vv_iconst (pc := 12) (v := 1) d_M_isDigit_12 rfl ?_
      refine vv_goto (pc := 13) (tgt := 17) d_M_isDigit_13 rfl ?_
      exact vv_zret (pc := 17) d_M_isDigit_17 rfl rfl
