theorem cn_L_declare : (parseMethodDescriptor m_L_declare.1.desc).map (fun d => d.parameters.length) = some 3 := by decide +kernel
theorem cn_L_program : (parseMethodDescriptor m_L_program.1.desc).map (fun d => d.parameters.length) = some 3 := by decide +kernel
theorem cn_L_lemma : (parseMethodDescriptor m_L_lemma.1.desc).map (fun d => d.parameters.length) = some 2 := by decide +kernel
theorem cn_L_retract : (parseMethodDescriptor m_L_retract.1.desc).map (fun d => d.parameters.length) = some 2 := by decide +kernel
theorem cn_L_run : (parseMethodDescriptor m_L_run.1.desc).map (fun d => d.parameters.length) = some 3 := by decide +kernel
theorem x_P_wipe {G : cp_G} {h : Nat → cp_E} {z d : Nat} {g0 : Nat → Value} (hd : 0 ≤ d) (H0 : h 0 = .inr (0, g0)) (E0_1 : g0 1 = .int 0) : cp_C G d m_P_wipe [.ref (cp_b G + 0)] h 86 z (some (.int 0)) (va_up h 0 (.inr (0, (va_up g0 1 (.int 0))))) 86 (z + 0) := by
  refine cp_C.of rfl (Nat.le_of_ble_eq_true rfl) ?_
  refine vv_aload_n (pc := 0) d_P_wipe_0 rfl ?_
  refine vv_getf (pc := 1) d_P_wipe_1 fl_P_13 (by decide) H0 E0_1 ?_
  refine vv_istore_n (pc := 4) d_P_wipe_4 (Nat.le_of_ble_eq_true rfl) ?_
  refine vv_aload_n (pc := 5) d_P_wipe_5 rfl ?_
  refine vv_iconst (pc := 6) (v := 0) d_P_wipe_6 rfl ?_
  refine vv_putf (pc := 7) d_P_wipe_7 fl_P_13 (by decide) H0 rfl rfl rfl ?_
  refine vv_iload_n (pc := 10) d_P_wipe_10 rfl ?_
  exact vv_iret (pc := 11) d_P_wipe_11 rfl
theorem x_M_wipe {G : cp_G} {h : Nat → cp_E} {z d : Nat} {g26 : Nat → Value} (hd : 0 ≤ d) (H26 : h 26 = .inr (11, g26)) (E26_1 : g26 1 = .int 0) : cp_C G d m_M_wipe [.ref (cp_b G + 26)] h 86 z (some (.int 0)) (va_up (va_up h 26 (.inr (11, (va_up g26 0 (.int 0))))) 26 (.inr (11, (va_up (va_up g26 0 (.int 0)) 1 (.int 0))))) 86 (z + 0) := by
  refine cp_C.of rfl (Nat.le_of_ble_eq_true rfl) ?_
  refine vv_aload_n (pc := 0) d_M_wipe_0 rfl ?_
  refine vv_iconst (pc := 1) (v := 0) d_M_wipe_1 rfl ?_
  refine vv_putf (pc := 2) d_M_wipe_2 fl_M_184 (by decide) H26 rfl rfl rfl ?_
  refine vv_aload_n (pc := 5) d_M_wipe_5 rfl ?_
  refine vv_getf (pc := 6) d_M_wipe_6 fl_M_188 (by decide) rfl E26_1 ?_
  refine vv_istore_n (pc := 9) d_M_wipe_9 (Nat.le_of_ble_eq_true rfl) ?_
  refine vv_aload_n (pc := 10) d_M_wipe_10 rfl ?_
  refine vv_iconst (pc := 11) (v := 0) d_M_wipe_11 rfl ?_
  refine vv_putf (pc := 12) d_M_wipe_12 fl_M_188 (by decide) rfl rfl rfl rfl ?_
  refine vv_iload_n (pc := 15) d_M_wipe_15 rfl ?_
  exact vv_iret (pc := 16) d_M_wipe_16 rfl
theorem p_law_1 {G : cp_G} {h : Nat → cp_E} {z d bb : Nat} {xs : Nat → Int32} {g0 g26 : Nat → Value} (hS : cp_scr G bb 2 xs) (hd : 1 ≤ d) (H0 : h 0 = .inr (0, g0)) (E0_1 : g0 1 = .int 0) (H26 : h 26 = .inr (11, g26)) (E26_1 : g26 1 = .int 0) : cp_V G m_law d 0 0 (.inl (some (.int 1))) (va_up (va_up (va_up h 0 (.inr (0, (va_up g0 1 (.int 0))))) 26 (.inr (11, (va_up g26 0 (.int 0))))) 26 (.inr (11, (va_up (va_up g26 0 (.int 0)) 1 (.int 0))))) 86 (z + 0) 131 [(4, .int 0), (3, .ref (cp_b G + 85)), (2, .ref (cp_b G + 26)), (1, .ref (cp_b G + 0)), (0, .ref bb)] [] h 86 z := by
  refine vv_aload_n (pc := 131) d_law_131 rfl ?_
  refine vv_callV (pc := 132) (As := []) d_law_132 (x_P_wipe (d := d - 1) (by omega) H0 E0_1) k_P_wipe ml_L_40.1 ml_L_40.2.1 ml_L_40.2.2.1 ml_L_40.2.2.2.1 ml_L_40.2.2.2.2 (by decide) H0 (by omega) (Nat.le_of_ble_eq_true rfl) ?_
  refine vv_aload_n (pc := 135) d_law_135 rfl ?_
  refine vv_callV (pc := 136) (As := []) d_law_136 (x_M_wipe (d := d - 1) (by omega) H26 E26_1) k_M_wipe ml_L_44.1 ml_L_44.2.1 ml_L_44.2.2.1 ml_L_44.2.2.2.1 ml_L_44.2.2.2.2 (by decide) H26 (by omega) (Nat.le_of_ble_eq_true rfl) ?_
  refine vv_icmp_eq (pc := 139) (tgt := 518) d_law_139 rfl (fun _ => ?_) (fun hc => absurd (by decide +kernel) hc)
  refine vv_iinc (pc := 518) (v := 2) d_law_518 rfl (by decide +kernel) (Nat.le_of_ble_eq_true rfl) ?_
  refine vv_goto (pc := 521) (tgt := 23) d_law_521 rfl ?_
  refine vv_iload (pc := 23) d_law_23 rfl ?_
  refine vv_aload_n (pc := 25) d_law_25 rfl ?_
  refine vv_slen (pc := 26) hS d_law_26 ?_
  refine vv_topi (y := 2) (by decide +kernel) ?_
  refine vv_iconst (pc := 27) (v := 2) d_law_27 rfl ?_
  refine vv_isub (pc := 28) d_law_28 ?_
  refine vv_topi (y := 0) (by decide +kernel) ?_
  refine vv_icmp_gt (pc := 29) (tgt := 524) d_law_29 rfl (fun _ => ?_) (fun hc => absurd (by decide +kernel) hc)
  refine vv_iconst (pc := 524) (v := 1) d_law_524 rfl ?_
  exact vv_zret (pc := 525) d_law_525 rfl rfl
theorem x_Q_open {G : cp_G} {h : Nat → cp_E} {z d : Nat} {g21 : Nat → Value} {f1 : Nat → Int32} (hd : 1 ≤ d) (H21 : h 21 = .inr (5, g21)) (H1 : h 1 = .inl (cp_cC G, 80, .inl f1)) : cp_C G d m_Q_open [.ref (cp_b G + 21), .ref (cp_b G + 1), .int 0] h 86 z none (va_up (va_up (va_up h 21 (.inr (5, (va_up g21 0 (.ref (cp_b G + 1)))))) 21 (.inr (5, (va_up (va_up g21 0 (.ref (cp_b G + 1))) 1 (.int 0))))) 21 (.inr (5, (va_up (va_up (va_up g21 0 (.ref (cp_b G + 1))) 1 (.int 0)) 2 (.int 0))))) 86 (z + 0) := by
  refine cp_C.of rfl (Nat.le_of_ble_eq_true rfl) ?_
  refine vv_aload_n (pc := 0) d_Q_open_0 rfl ?_
  refine vv_aload_n (pc := 1) d_Q_open_1 rfl ?_
  refine vv_putf (pc := 2) d_Q_open_2 fl_Q_9 (by decide) H21 rfl rfl rfl ?_
  refine vv_aload_n (pc := 5) d_Q_open_5 rfl ?_
  refine vv_iload_n (pc := 6) d_Q_open_6 rfl ?_
  refine vv_aload_n (pc := 7) d_Q_open_7 rfl ?_
  refine vv_alenC (pc := 8) (v := 80) d_Q_open_8 (by decide) H1 rfl ?_
  refine vv_mmin (pc := 9) d_Q_open_9 ml_Q_22.1 (by omega) (Nat.le_of_ble_eq_true rfl) ?_
  refine vv_putf (pc := 12) d_Q_open_12 fl_Q_15 (by decide) rfl rfl rfl rfl ?_
  refine vv_aload_n (pc := 15) d_Q_open_15 rfl ?_
  refine vv_iconst (pc := 16) (v := 0) d_Q_open_16 rfl ?_
  refine vv_putf (pc := 17) d_Q_open_17 fl_Q_19 (by decide) rfl rfl rfl rfl ?_
  exact vv_vret (pc := 20) d_Q_open_20 rfl
theorem x_R_cut {G : cp_G} {h : Nat → cp_E} {z d : Nat} {g7 : Nat → Value} (hd : 0 ≤ d) (H7 : h 7 = .inr (3, g7)) (E7_1 : g7 1 = .int 0) : cp_C G d m_R_cut [.ref (cp_b G + 7), .int 0] h 86 z none h 86 (z + 0) := by
  refine cp_C.of rfl (Nat.le_of_ble_eq_true rfl) ?_
  refine vv_iload_n (pc := 0) d_R_cut_0 rfl ?_
  refine vv_if_lt (pc := 1) (tgt := 17) d_R_cut_1 rfl (fun hc => absurd hc (by decide +kernel)) (fun _ => ?_)
  refine vv_iload_n (pc := 4) d_R_cut_4 rfl ?_
  refine vv_aload_n (pc := 5) d_R_cut_5 rfl ?_
  refine vv_getf (pc := 6) d_R_cut_6 fl_R_21 (by decide) H7 E7_1 ?_
  refine vv_icmp_ge (pc := 9) (tgt := 17) d_R_cut_9 rfl (fun _ => ?_) (fun hc => absurd (by decide +kernel) hc)
  exact vv_vret (pc := 17) d_R_cut_17 rfl
theorem x_V_clear {G : cp_G} {h : Nat → cp_E} {z d : Nat} {g6 g7 : Nat → Value} (hd : 1 ≤ d) (H6 : h 6 = .inr (2, g6)) (E6_0 : g6 0 = .ref (cp_b G + 7)) (H7 : h 7 = .inr (3, g7)) (E7_1 : g7 1 = .int 0) : cp_C G d m_V_clear [.ref (cp_b G + 6)] h 86 z none h 86 (z + 0) := by
  refine cp_C.of rfl (Nat.le_of_ble_eq_true rfl) ?_
  refine vv_aload_n (pc := 0) d_V_clear_0 rfl ?_
  refine vv_getf (pc := 1) d_V_clear_1 fl_V_14 (by decide) H6 E6_0 ?_
  refine vv_iconst (pc := 4) (v := 0) d_V_clear_4 rfl ?_
  refine vv_callV (pc := 5) (As := [.int 0]) d_V_clear_5 (x_R_cut (d := d - 1) (by omega) H7 E7_1) k_R_cut ml_V_34.1 ml_V_34.2.1 ml_V_34.2.2.1 ml_V_34.2.2.2.1 ml_V_34.2.2.2.2 (by decide) H7 (by omega) (Nat.le_of_ble_eq_true rfl) ?_
  exact vv_vret (pc := 8) d_V_clear_8 rfl
theorem x_R_cut_2 {G : cp_G} {h : Nat → cp_E} {z d : Nat} {g15 : Nat → Value} (hd : 0 ≤ d) (H15 : h 15 = .inr (3, g15)) (E15_1 : g15 1 = .int 0) : cp_C G d m_R_cut [.ref (cp_b G + 15), .int 0] h 86 z none h 86 (z + 0) := by
  refine cp_C.of rfl (Nat.le_of_ble_eq_true rfl) ?_
  refine vv_iload_n (pc := 0) d_R_cut_0 rfl ?_
  refine vv_if_lt (pc := 1) (tgt := 17) d_R_cut_1 rfl (fun hc => absurd hc (by decide +kernel)) (fun _ => ?_)
  refine vv_iload_n (pc := 4) d_R_cut_4 rfl ?_
  refine vv_aload_n (pc := 5) d_R_cut_5 rfl ?_
  refine vv_getf (pc := 6) d_R_cut_6 fl_R_21 (by decide) H15 E15_1 ?_
  refine vv_icmp_ge (pc := 9) (tgt := 17) d_R_cut_9 rfl (fun _ => ?_) (fun hc => absurd (by decide +kernel) hc)
  exact vv_vret (pc := 17) d_R_cut_17 rfl
theorem x_R_cut_3 {G : cp_G} {h : Nat → cp_E} {z d : Nat} {g17 : Nat → Value} (hd : 0 ≤ d) (H17 : h 17 = .inr (3, g17)) (E17_1 : g17 1 = .int 0) : cp_C G d m_R_cut [.ref (cp_b G + 17), .int 0] h 86 z none h 86 (z + 0) := by
  refine cp_C.of rfl (Nat.le_of_ble_eq_true rfl) ?_
  refine vv_iload_n (pc := 0) d_R_cut_0 rfl ?_
  refine vv_if_lt (pc := 1) (tgt := 17) d_R_cut_1 rfl (fun hc => absurd hc (by decide +kernel)) (fun _ => ?_)
  refine vv_iload_n (pc := 4) d_R_cut_4 rfl ?_
  refine vv_aload_n (pc := 5) d_R_cut_5 rfl ?_
  refine vv_getf (pc := 6) d_R_cut_6 fl_R_21 (by decide) H17 E17_1 ?_
  refine vv_icmp_ge (pc := 9) (tgt := 17) d_R_cut_9 rfl (fun _ => ?_) (fun hc => absurd (by decide +kernel) hc)
  exact vv_vret (pc := 17) d_R_cut_17 rfl
theorem x_R_cut_4 {G : cp_G} {h : Nat → cp_E} {z d : Nat} {g19 : Nat → Value} (hd : 0 ≤ d) (H19 : h 19 = .inr (3, g19)) (E19_1 : g19 1 = .int 0) : cp_C G d m_R_cut [.ref (cp_b G + 19), .int 0] h 86 z none h 86 (z + 0) := by
  refine cp_C.of rfl (Nat.le_of_ble_eq_true rfl) ?_
  refine vv_iload_n (pc := 0) d_R_cut_0 rfl ?_
  refine vv_if_lt (pc := 1) (tgt := 17) d_R_cut_1 rfl (fun hc => absurd hc (by decide +kernel)) (fun _ => ?_)
  refine vv_iload_n (pc := 4) d_R_cut_4 rfl ?_
  refine vv_aload_n (pc := 5) d_R_cut_5 rfl ?_
  refine vv_getf (pc := 6) d_R_cut_6 fl_R_21 (by decide) H19 E19_1 ?_
  refine vv_icmp_ge (pc := 9) (tgt := 17) d_R_cut_9 rfl (fun _ => ?_) (fun hc => absurd (by decide +kernel) hc)
  exact vv_vret (pc := 17) d_R_cut_17 rfl
theorem x_B_cut {G : cp_G} {h : Nat → cp_E} {z d : Nat} {g14 g15 g17 g19 : Nat → Value} (hd : 1 ≤ d) (H14 : h 14 = .inr (4, g14)) (E14_0 : g14 0 = .ref (cp_b G + 15)) (H15 : h 15 = .inr (3, g15)) (E15_1 : g15 1 = .int 0) (E14_1 : g14 1 = .ref (cp_b G + 17)) (H17 : h 17 = .inr (3, g17)) (E17_1 : g17 1 = .int 0) (E14_2 : g14 2 = .ref (cp_b G + 19)) (H19 : h 19 = .inr (3, g19)) (E19_1 : g19 1 = .int 0) : cp_C G d m_B_cut [.ref (cp_b G + 14), .int 0] h 86 z none h 86 (z + 0) := by
  refine cp_C.of rfl (Nat.le_of_ble_eq_true rfl) ?_
  refine vv_aload_n (pc := 0) d_B_cut_0 rfl ?_
  refine vv_getf (pc := 1) d_B_cut_1 fl_B_14 (by decide) H14 E14_0 ?_
  refine vv_iload_n (pc := 4) d_B_cut_4 rfl ?_
  refine vv_callV (pc := 5) (As := [.int 0]) d_B_cut_5 (x_R_cut_2 (d := d - 1) (by omega) H15 E15_1) k_R_cut ml_B_40.1 ml_B_40.2.1 ml_B_40.2.2.1 ml_B_40.2.2.2.1 ml_B_40.2.2.2.2 (by decide) H15 (by omega) (Nat.le_of_ble_eq_true rfl) ?_
  refine vv_aload_n (pc := 8) d_B_cut_8 rfl ?_
  refine vv_getf (pc := 9) d_B_cut_9 fl_B_20 (by decide) H14 E14_1 ?_
  refine vv_iload_n (pc := 12) d_B_cut_12 rfl ?_
  refine vv_callV (pc := 13) (As := [.int 0]) d_B_cut_13 (x_R_cut_3 (d := d - 1) (by omega) H17 E17_1) k_R_cut ml_B_40.1 ml_B_40.2.1 ml_B_40.2.2.1 ml_B_40.2.2.2.1 ml_B_40.2.2.2.2 (by decide) H17 (by omega) (Nat.le_of_ble_eq_true rfl) ?_
  refine vv_aload_n (pc := 16) d_B_cut_16 rfl ?_
  refine vv_getf (pc := 17) d_B_cut_17 fl_B_23 (by decide) H14 E14_2 ?_
  refine vv_iload_n (pc := 20) d_B_cut_20 rfl ?_
  refine vv_callV (pc := 21) (As := [.int 0]) d_B_cut_21 (x_R_cut_4 (d := d - 1) (by omega) H19 E19_1) k_R_cut ml_B_40.1 ml_B_40.2.1 ml_B_40.2.2.1 ml_B_40.2.2.2.1 ml_B_40.2.2.2.2 (by decide) H19 (by omega) (Nat.le_of_ble_eq_true rfl) ?_
  exact vv_vret (pc := 24) d_B_cut_24 rfl
theorem x_P_openText {G : cp_G} {h : Nat → cp_E} {z d : Nat} {g0 g21 g6 g7 g14 g15 g17 g19 : Nat → Value} {f1 : Nat → Int32} (hd : 2 ≤ d) (H0 : h 0 = .inr (0, g0)) (E0_7 : g0 7 = .ref (cp_b G + 21)) (E0_0 : g0 0 = .ref (cp_b G + 1)) (E0_1 : g0 1 = .int 0) (H21 : h 21 = .inr (5, g21)) (H1 : h 1 = .inl (cp_cC G, 80, .inl f1)) (E0_5 : g0 5 = .ref (cp_b G + 6)) (H6 : h 6 = .inr (2, g6)) (E6_0 : g6 0 = .ref (cp_b G + 7)) (H7 : h 7 = .inr (3, g7)) (E7_1 : g7 1 = .int 0) (E0_6 : g0 6 = .ref (cp_b G + 14)) (H14 : h 14 = .inr (4, g14)) (E14_0 : g14 0 = .ref (cp_b G + 15)) (H15 : h 15 = .inr (3, g15)) (E15_1 : g15 1 = .int 0) (E14_1 : g14 1 = .ref (cp_b G + 17)) (H17 : h 17 = .inr (3, g17)) (E17_1 : g17 1 = .int 0) (E14_2 : g14 2 = .ref (cp_b G + 19)) (H19 : h 19 = .inr (3, g19)) (E19_1 : g19 1 = .int 0) : cp_C G d m_P_openText [.ref (cp_b G + 0)] h 86 z none (va_up (va_up (va_up (va_up h 21 (.inr (5, (va_up g21 0 (.ref (cp_b G + 1)))))) 21 (.inr (5, (va_up (va_up g21 0 (.ref (cp_b G + 1))) 1 (.int 0))))) 21 (.inr (5, (va_up (va_up (va_up g21 0 (.ref (cp_b G + 1))) 1 (.int 0)) 2 (.int 0))))) 0 (.inr (0, (va_up g0 1 (.int 0))))) 86 (z + 0) := by
  refine cp_C.of rfl (Nat.le_of_ble_eq_true rfl) ?_
  refine vv_aload_n (pc := 0) d_P_openText_0 rfl ?_
  refine vv_getf (pc := 1) d_P_openText_1 fl_P_47 (by decide) H0 E0_7 ?_
  refine vv_aload_n (pc := 4) d_P_openText_4 rfl ?_
  refine vv_getf (pc := 5) d_P_openText_5 fl_P_9 (by decide) H0 E0_0 ?_
  refine vv_aload_n (pc := 8) d_P_openText_8 rfl ?_
  refine vv_getf (pc := 9) d_P_openText_9 fl_P_13 (by decide) H0 E0_1 ?_
  refine vv_callV (pc := 12) (As := [.ref (cp_b G + 1), .int 0]) d_P_openText_12 (x_Q_open (d := d - 1) (by omega) H21 H1) k_Q_open ml_P_208.1 ml_P_208.2.1 ml_P_208.2.2.1 ml_P_208.2.2.2.1 ml_P_208.2.2.2.2 (by decide) H21 (by omega) (Nat.le_of_ble_eq_true rfl) ?_
  refine vv_aload_n (pc := 15) d_P_openText_15 rfl ?_
  refine vv_iconst (pc := 16) (v := 0) d_P_openText_16 rfl ?_
  refine vv_putf (pc := 17) d_P_openText_17 fl_P_13 (by decide) H0 rfl rfl rfl ?_
  refine vv_aload_n (pc := 20) d_P_openText_20 rfl ?_
  refine vv_getf (pc := 21) d_P_openText_21 fl_P_33 (by decide) rfl E0_5 ?_
  refine vv_callV (pc := 24) (As := []) d_P_openText_24 (x_V_clear (d := d - 1) (by omega) H6 E6_0 H7 E7_1) k_V_clear ml_P_212.1 ml_P_212.2.1 ml_P_212.2.2.1 ml_P_212.2.2.2.1 ml_P_212.2.2.2.2 (by decide) H6 (by omega) (Nat.le_of_ble_eq_true rfl) ?_
  refine vv_aload_n (pc := 27) d_P_openText_27 rfl ?_
  refine vv_getf (pc := 28) d_P_openText_28 fl_P_40 (by decide) rfl E0_6 ?_
  refine vv_iconst (pc := 31) (v := 0) d_P_openText_31 rfl ?_
  refine vv_callV (pc := 32) (As := [.int 0]) d_P_openText_32 (x_B_cut (d := d - 1) (by omega) H14 E14_0 H15 E15_1 E14_1 H17 E17_1 E14_2 H19 E19_1) k_B_cut ml_P_215.1 ml_P_215.2.1 ml_P_215.2.2.1 ml_P_215.2.2.2.1 ml_P_215.2.2.2.2 (by decide) H14 (by omega) (Nat.le_of_ble_eq_true rfl) ?_
  exact vv_vret (pc := 35) d_P_openText_35 rfl
theorem x_U_forgetSteps {G : cp_G} {h : Nat → cp_E} {z d : Nat} {g23 : Nat → Value} (hd : 0 ≤ d) (H23 : h 23 = .inr (6, g23)) : cp_C G d m_U_forgetSteps [.ref (cp_b G + 23)] h 86 z none (va_up h 23 (.inr (6, (va_up g23 4 (.int 0))))) 86 (z + 0) := by
  refine cp_C.of rfl (Nat.le_of_ble_eq_true rfl) ?_
  refine vv_aload_n (pc := 0) d_U_forgetSteps_0 rfl ?_
  refine vv_iconst (pc := 1) (v := 0) d_U_forgetSteps_1 rfl ?_
  refine vv_putf (pc := 2) d_U_forgetSteps_2 fl_U_27 (by decide) H23 rfl rfl rfl ?_
  exact vv_vret (pc := 5) d_U_forgetSteps_5 rfl
theorem x_Q_peek {G : cp_G} {h : Nat → cp_E} {z d : Nat} {g21 : Nat → Value} (hd : 0 ≤ d) (H21 : h 21 = .inr (5, g21)) (E21_2 : g21 2 = .int 0) (E21_1 : g21 1 = .int 0) : cp_C G d m_Q_peek [.ref (cp_b G + 21)] h 86 z (some (.int 0)) h 86 (z + 0) := by
  refine cp_C.of rfl (Nat.le_of_ble_eq_true rfl) ?_
  refine vv_aload_n (pc := 0) d_Q_peek_0 rfl ?_
  refine vv_getf (pc := 1) d_Q_peek_1 fl_Q_19 (by decide) H21 E21_2 ?_
  refine vv_if_lt (pc := 4) (tgt := 30) d_Q_peek_4 rfl (fun hc => absurd hc (by decide +kernel)) (fun _ => ?_)
  refine vv_aload_n (pc := 7) d_Q_peek_7 rfl ?_
  refine vv_getf (pc := 8) d_Q_peek_8 fl_Q_19 (by decide) H21 E21_2 ?_
  refine vv_aload_n (pc := 11) d_Q_peek_11 rfl ?_
  refine vv_getf (pc := 12) d_Q_peek_12 fl_Q_15 (by decide) H21 E21_1 ?_
  refine vv_icmp_ge (pc := 15) (tgt := 30) d_Q_peek_15 rfl (fun _ => ?_) (fun hc => absurd (by decide +kernel) hc)
  refine vv_iconst (pc := 30) (v := 0) d_Q_peek_30 rfl ?_
  exact vv_zret (pc := 31) d_Q_peek_31 rfl rfl
theorem x_P_isVariable {G : cp_G} {h : Nat → cp_E} {z d : Nat} (hd : 0 ≤ d) : cp_C G d m_P_isVariable [.int 0] h 86 z (some (.int 0)) h 86 (z + 0) := by
  refine cp_C.of rfl (Nat.le_of_ble_eq_true rfl) ?_
  refine vv_iload_n (pc := 0) d_P_isVariable_0 rfl ?_
  refine vv_bipush (pc := 1) (v := 97) d_P_isVariable_1 rfl ?_
  refine vv_icmp_lt (pc := 3) (tgt := 16) d_P_isVariable_3 rfl (fun _ => ?_) (fun hc => absurd (by decide +kernel) hc)
  refine vv_iconst (pc := 16) (v := 0) d_P_isVariable_16 rfl ?_
  exact vv_zret (pc := 17) d_P_isVariable_17 rfl rfl
theorem x_P_isDigit {G : cp_G} {h : Nat → cp_E} {z d : Nat} (hd : 0 ≤ d) : cp_C G d m_P_isDigit [.int 0] h 86 z (some (.int 0)) h 86 (z + 0) := by
  refine cp_C.of rfl (Nat.le_of_ble_eq_true rfl) ?_
  refine vv_iload_n (pc := 0) d_P_isDigit_0 rfl ?_
  refine vv_bipush (pc := 1) (v := 48) d_P_isDigit_1 rfl ?_
  refine vv_icmp_lt (pc := 3) (tgt := 16) d_P_isDigit_3 rfl (fun _ => ?_) (fun hc => absurd (by decide +kernel) hc)
  refine vv_iconst (pc := 16) (v := 0) d_P_isDigit_16 rfl ?_
  exact vv_zret (pc := 17) d_P_isDigit_17 rfl rfl
theorem x_P_isLetter {G : cp_G} {h : Nat → cp_E} {z d : Nat} (hd : 0 ≤ d) : cp_C G d m_P_isLetter [.int 0] h 86 z (some (.int 0)) h 86 (z + 0) := by
  refine cp_C.of rfl (Nat.le_of_ble_eq_true rfl) ?_
  refine vv_iload_n (pc := 0) d_P_isLetter_0 rfl ?_
  refine vv_bipush (pc := 1) (v := 65) d_P_isLetter_1 rfl ?_
  refine vv_icmp_lt (pc := 3) (tgt := 16) d_P_isLetter_3 rfl (fun _ => ?_) (fun hc => absurd (by decide +kernel) hc)
  refine vv_iconst (pc := 16) (v := 0) d_P_isLetter_16 rfl ?_
  exact vv_zret (pc := 17) d_P_isLetter_17 rfl rfl
theorem x_Q_piece {G : cp_G} {h : Nat → cp_E} {z d : Nat} {g21 : Nat → Value} (hd : 1 ≤ d) (H21 : h 21 = .inr (5, g21)) (E21_2 : g21 2 = .int 0) (E21_1 : g21 1 = .int 0) : cp_C G d m_Q_piece [.ref (cp_b G + 21), .int 1, .int 1] h 86 z (some (.null)) h 86 (z + 0) := by
  refine cp_C.of rfl (Nat.le_of_ble_eq_true rfl) ?_
  refine vv_aload_n (pc := 0) d_Q_piece_0 rfl ?_
  refine vv_callV (pc := 1) (As := []) d_Q_piece_1 (x_Q_peek (d := d - 1) (by omega) H21 E21_2 E21_1) k_Q_peek ml_Q_53.1 ml_Q_53.2.1 ml_Q_53.2.2.1 ml_Q_53.2.2.2.1 ml_Q_53.2.2.2.2 (by decide) H21 (by omega) (Nat.le_of_ble_eq_true rfl) ?_
  refine vv_istore_n (pc := 4) d_Q_piece_4 (Nat.le_of_ble_eq_true rfl) ?_
  refine vv_iload_n (pc := 5) d_Q_piece_5 rfl ?_
  refine vv_callSN (pc := 6) (As := [.int 0]) d_Q_piece_6 (x_P_isVariable (d := d - 1) (by omega)) k_P_isVariable nl_Q_79 ks_P_isVariable (by omega) (Nat.le_of_ble_eq_true rfl) ?_
  refine vv_if_eq (pc := 9) (tgt := 19) d_Q_piece_9 rfl (fun _ => ?_) (fun hc => absurd (by decide +kernel) hc)
  refine vv_iload_n (pc := 19) d_Q_piece_19 rfl ?_
  refine vv_callSN (pc := 20) (As := [.int 0]) d_Q_piece_20 (x_P_isDigit (d := d - 1) (by omega)) k_P_isDigit nl_Q_82 ks_P_isDigit (by omega) (Nat.le_of_ble_eq_true rfl) ?_
  refine vv_if_eq (pc := 23) (tgt := 36) d_Q_piece_23 rfl (fun _ => ?_) (fun hc => absurd (by decide +kernel) hc)
  refine vv_iload_n (pc := 36) d_Q_piece_36 rfl ?_
  refine vv_callSN (pc := 37) (As := [.int 0]) d_Q_piece_37 (x_P_isLetter (d := d - 1) (by omega)) k_P_isLetter nl_Q_76 ks_P_isLetter (by omega) (Nat.le_of_ble_eq_true rfl) ?_
  refine vv_if_eq (pc := 40) (tgt := 50) d_Q_piece_40 rfl (fun _ => ?_) (fun hc => absurd (by decide +kernel) hc)
  refine vv_iload_n (pc := 50) d_Q_piece_50 rfl ?_
  refine vv_iconst (pc := 51) (v := 3) d_Q_piece_51 rfl ?_
  refine vv_icmp_ne (pc := 52) (tgt := 62) d_Q_piece_52 rfl (fun _ => ?_) (fun hc => absurd hc (by decide +kernel))
  refine vv_iload_n (pc := 62) d_Q_piece_62 rfl ?_
  refine vv_bipush (pc := 63) (v := 35) d_Q_piece_63 rfl ?_
  refine vv_icmp_ne (pc := 65) (tgt := 75) d_Q_piece_65 rfl (fun _ => ?_) (fun hc => absurd hc (by decide +kernel))
  refine vv_iload_n (pc := 75) d_Q_piece_75 rfl ?_
  refine vv_bipush (pc := 76) (v := 95) d_Q_piece_76 rfl ?_
  refine vv_icmp_ne (pc := 78) (tgt := 95) d_Q_piece_78 rfl (fun _ => ?_) (fun hc => absurd hc (by decide +kernel))
  refine vv_null (pc := 95) d_Q_piece_95 ?_
  exact vv_aret (pc := 96) d_Q_piece_96 rfl (Or.inl ⟨_, rfl⟩) cp_isr_n
theorem x_Q_whole {G : cp_G} {h : Nat → cp_E} {z d : Nat} {g21 : Nat → Value} (hd : 0 ≤ d) (H21 : h 21 = .inr (5, g21)) (E21_2 : g21 2 = .int 0) (E21_1 : g21 1 = .int 0) : cp_C G d m_Q_whole [.ref (cp_b G + 21), .null] h 86 z (some (.null)) h 86 (z + 0) := by
  refine cp_C.of rfl (Nat.le_of_ble_eq_true rfl) ?_
  refine vv_aload_n (pc := 0) d_Q_whole_0 rfl ?_
  refine vv_getf (pc := 1) d_Q_whole_1 fl_Q_19 (by decide) H21 E21_2 ?_
  refine vv_aload_n (pc := 4) d_Q_whole_4 rfl ?_
  refine vv_getf (pc := 5) d_Q_whole_5 fl_Q_15 (by decide) H21 E21_1 ?_
  refine vv_icmp_ne (pc := 8) (tgt := 15) d_Q_whole_8 rfl (fun hc => absurd (by decide +kernel) hc) (fun _ => ?_)
  refine vv_aload_nN (pc := 11) d_Q_whole_11 rfl ?_
  refine vv_goto (pc := 12) (tgt := 16) d_Q_whole_12 rfl ?_
  exact vv_aret (pc := 16) d_Q_whole_16 rfl (Or.inl ⟨_, rfl⟩) cp_isr_n
theorem x_Q_readTerm {G : cp_G} {h : Nat → cp_E} {z d : Nat} {g21 : Nat → Value} (hd : 2 ≤ d) (H21 : h 21 = .inr (5, g21)) (E21_2 : g21 2 = .int 0) (E21_1 : g21 1 = .int 0) : cp_C G d m_Q_readTerm [.ref (cp_b G + 21)] h 86 z (some (.null)) h 86 (z + 0) := by
  refine cp_C.of rfl (Nat.le_of_ble_eq_true rfl) ?_
  refine vv_aload_n (pc := 0) d_Q_readTerm_0 rfl ?_
  refine vv_aload_n (pc := 1) d_Q_readTerm_1 rfl ?_
  refine vv_iconst (pc := 2) (v := 1) d_Q_readTerm_2 rfl ?_
  refine vv_iconst (pc := 3) (v := 1) d_Q_readTerm_3 rfl ?_
  refine vv_callV (pc := 4) (As := [.int 1, .int 1]) d_Q_readTerm_4 (x_Q_piece (d := d - 1) (by omega) H21 E21_2 E21_1) k_Q_piece ml_Q_28.1 ml_Q_28.2.1 ml_Q_28.2.2.1 ml_Q_28.2.2.2.1 ml_Q_28.2.2.2.2 (by decide) H21 (by omega) (Nat.le_of_ble_eq_true rfl) ?_
  refine vv_callV (pc := 7) (As := [.null]) d_Q_readTerm_7 (x_Q_whole (d := d - 1) (by omega) H21 E21_2 E21_1) k_Q_whole ml_Q_32.1 ml_Q_32.2.1 ml_Q_32.2.2.1 ml_Q_32.2.2.2.1 ml_Q_32.2.2.2.2 (by decide) H21 (by omega) (Nat.le_of_ble_eq_true rfl) ?_
  exact vv_aret (pc := 10) d_Q_readTerm_10 rfl (Or.inl ⟨_, rfl⟩) cp_isr_n
theorem x_Q_place {G : cp_G} {h : Nat → cp_E} {z d : Nat} {g21 : Nat → Value} (hd : 0 ≤ d) (H21 : h 21 = .inr (5, g21)) (E21_2 : g21 2 = .int 0) : cp_C G d m_Q_place [.ref (cp_b G + 21)] h 86 z (some (.int 0)) h 86 (z + 0) := by
  refine cp_C.of rfl (Nat.le_of_ble_eq_true rfl) ?_
  refine vv_aload_n (pc := 0) d_Q_place_0 rfl ?_
  refine vv_getf (pc := 1) d_Q_place_1 fl_Q_19 (by decide) H21 E21_2 ?_
  exact vv_iret (pc := 4) d_Q_place_4 rfl
theorem x_P_fault {G : cp_G} {h : Nat → cp_E} {z d : Nat} {g0 g21 : Nat → Value} (hd : 1 ≤ d) (H0 : h 0 = .inr (0, g0)) (E0_7 : g0 7 = .ref (cp_b G + 21)) (H21 : h 21 = .inr (5, g21)) (E21_2 : g21 2 = .int 0) : cp_C G d m_P_fault [.ref (cp_b G + 0)] h 86 z (some (.int (-1))) h 86 (z + 0) := by
  refine cp_C.of rfl (Nat.le_of_ble_eq_true rfl) ?_
  refine vv_iconst (pc := 0) (v := (-1)) d_P_fault_0 rfl ?_
  refine vv_aload_n (pc := 1) d_P_fault_1 rfl ?_
  refine vv_getf (pc := 2) d_P_fault_2 fl_P_47 (by decide) H0 E0_7 ?_
  refine vv_callV (pc := 5) (As := []) d_P_fault_5 (x_Q_place (d := d - 1) (by omega) H21 E21_2) k_Q_place ml_P_219.1 ml_P_219.2.1 ml_P_219.2.2.1 ml_P_219.2.2.2.1 ml_P_219.2.2.2.2 (by decide) H21 (by omega) (Nat.le_of_ble_eq_true rfl) ?_
  refine vv_isub (pc := 8) d_P_fault_8 ?_
  refine vv_topi (y := (-1)) (by decide +kernel) ?_
  exact vv_iret (pc := 9) d_P_fault_9 rfl
theorem x_P_check {G : cp_G} {h : Nat → cp_E} {z d : Nat} {g0 g21 g6 g7 g14 g15 g17 g19 g23 : Nat → Value} {f1 : Nat → Int32} (hd : 3 ≤ d) (H0 : h 0 = .inr (0, g0)) (E0_7 : g0 7 = .ref (cp_b G + 21)) (E0_0 : g0 0 = .ref (cp_b G + 1)) (E0_1 : g0 1 = .int 0) (H21 : h 21 = .inr (5, g21)) (H1 : h 1 = .inl (cp_cC G, 80, .inl f1)) (E0_5 : g0 5 = .ref (cp_b G + 6)) (H6 : h 6 = .inr (2, g6)) (E6_0 : g6 0 = .ref (cp_b G + 7)) (H7 : h 7 = .inr (3, g7)) (E7_1 : g7 1 = .int 0) (E0_6 : g0 6 = .ref (cp_b G + 14)) (H14 : h 14 = .inr (4, g14)) (E14_0 : g14 0 = .ref (cp_b G + 15)) (H15 : h 15 = .inr (3, g15)) (E15_1 : g15 1 = .int 0) (E14_1 : g14 1 = .ref (cp_b G + 17)) (H17 : h 17 = .inr (3, g17)) (E17_1 : g17 1 = .int 0) (E14_2 : g14 2 = .ref (cp_b G + 19)) (H19 : h 19 = .inr (3, g19)) (E19_1 : g19 1 = .int 0) (E0_8 : g0 8 = .ref (cp_b G + 23)) (H23 : h 23 = .inr (6, g23)) : cp_C G d m_P_check [.ref (cp_b G + 0)] h 86 z (some (.int (-1))) (va_up (va_up (va_up (va_up (va_up (va_up h 21 (.inr (5, (va_up g21 0 (.ref (cp_b G + 1)))))) 21 (.inr (5, (va_up (va_up g21 0 (.ref (cp_b G + 1))) 1 (.int 0))))) 21 (.inr (5, (va_up (va_up (va_up g21 0 (.ref (cp_b G + 1))) 1 (.int 0)) 2 (.int 0))))) 0 (.inr (0, (va_up g0 1 (.int 0))))) 23 (.inr (6, (va_up g23 4 (.int 0))))) 0 (.inr (0, (va_up (va_up g0 1 (.int 0)) 11 (.null))))) 86 (z + 0) := by
  refine cp_C.of rfl (Nat.le_of_ble_eq_true rfl) ?_
  refine vv_aload_n (pc := 0) d_P_check_0 rfl ?_
  refine vv_callV (pc := 1) (As := []) d_P_check_1 (x_P_openText (d := d - 1) (by omega) H0 E0_7 E0_0 E0_1 H21 H1 E0_5 H6 E6_0 H7 E7_1 E0_6 H14 E14_0 H15 E15_1 E14_1 H17 E17_1 E14_2 H19 E19_1) k_P_openText ml_P_90.1 ml_P_90.2.1 ml_P_90.2.2.1 ml_P_90.2.2.2.1 ml_P_90.2.2.2.2 (by decide) H0 (by omega) (Nat.le_of_ble_eq_true rfl) ?_
  refine vv_aload_n (pc := 4) d_P_check_4 rfl ?_
  refine vv_getf (pc := 5) d_P_check_5 fl_P_56 (by decide) rfl E0_8 ?_
  refine vv_callV (pc := 8) (As := []) d_P_check_8 (x_U_forgetSteps (d := d - 1) (by omega) H23) k_U_forgetSteps ml_P_120.1 ml_P_120.2.1 ml_P_120.2.2.1 ml_P_120.2.2.2.1 ml_P_120.2.2.2.2 (by decide) H23 (by omega) (Nat.le_of_ble_eq_true rfl) ?_
  refine vv_aload_n (pc := 11) d_P_check_11 rfl ?_
  refine vv_null (pc := 12) d_P_check_12 ?_
  refine vv_putf (pc := 13) d_P_check_13 fl_P_78 (by decide) rfl rfl rfl rfl ?_
  refine vv_aload_n (pc := 16) d_P_check_16 rfl ?_
  refine vv_getf (pc := 17) d_P_check_17 fl_P_47 (by decide) rfl E0_7 ?_
  refine vv_callV (pc := 20) (As := []) d_P_check_20 (x_Q_readTerm (d := d - 1) (by omega) rfl rfl rfl) k_Q_readTerm ml_P_123.1 ml_P_123.2.1 ml_P_123.2.2.1 ml_P_123.2.2.2.1 ml_P_123.2.2.2.2 (by decide) rfl (by omega) (Nat.le_of_ble_eq_true rfl) ?_
  refine vv_astore_n (pc := 23) d_P_check_23 cp_isr_n (Nat.le_of_ble_eq_true rfl) ?_
  refine vv_aload_nN (pc := 24) d_P_check_24 rfl ?_
  refine vv_ifnonnullN (pc := 25) d_P_check_25 ?_
  refine vv_aload_n (pc := 28) d_P_check_28 rfl ?_
  refine vv_callV (pc := 29) (As := []) d_P_check_29 (x_P_fault (d := d - 1) (by omega) rfl E0_7 rfl rfl) k_P_fault ml_P_97.1 ml_P_97.2.1 ml_P_97.2.2.1 ml_P_97.2.2.2.1 ml_P_97.2.2.2.2 (by decide) rfl (by omega) (Nat.le_of_ble_eq_true rfl) ?_
  exact vv_iret (pc := 32) d_P_check_32 rfl
theorem x_M_push {G : cp_G} {h : Nat → cp_E} {z d : Nat} {g26 : Nat → Value} {f49 f50 f51 : Nat → Int32} (hd : 0 ≤ d) (H26 : h 26 = .inr (11, g26)) (E26_30 : g26 30 = .ref (cp_b G + 49)) (E26_29 : g26 29 = .int 0) (H49 : h 49 = .inl (cp_cI G, 400, .inl f49)) (E26_31 : g26 31 = .ref (cp_b G + 50)) (H50 : h 50 = .inl (cp_cI G, 400, .inl f50)) (E26_32 : g26 32 = .ref (cp_b G + 51)) (H51 : h 51 = .inl (cp_cI G, 400, .inl f51)) : cp_C G d m_M_push [.ref (cp_b G + 26), .int 200, .int 2, .int 1] h 86 z none (va_up (va_up (va_up (va_up h 49 (.inl (cp_cI G, 400, .inl (upd f49 0 200)))) 50 (.inl (cp_cI G, 400, .inl (upd f50 0 2)))) 51 (.inl (cp_cI G, 400, .inl (upd f51 0 1)))) 26 (.inr (11, (va_up g26 29 (.int 1))))) 86 (z + 0) := by
  refine cp_C.of rfl (Nat.le_of_ble_eq_true rfl) ?_
  refine vv_aload_n (pc := 0) d_M_push_0 rfl ?_
  refine vv_getf (pc := 1) d_M_push_1 fl_M_76 (by decide) H26 E26_30 ?_
  refine vv_aload_n (pc := 4) d_M_push_4 rfl ?_
  refine vv_getf (pc := 5) d_M_push_5 fl_M_191 (by decide) H26 E26_29 ?_
  refine vv_iload_n (pc := 8) d_M_push_8 rfl ?_
  refine vv_iasN (pc := 9) (j := 0) d_M_push_9 (by decide) H49 (by decide) (by decide) ?_
  refine vv_aload_n (pc := 10) d_M_push_10 rfl ?_
  refine vv_getf (pc := 11) d_M_push_11 fl_M_79 (by decide) H26 E26_31 ?_
  refine vv_aload_n (pc := 14) d_M_push_14 rfl ?_
  refine vv_getf (pc := 15) d_M_push_15 fl_M_191 (by decide) H26 E26_29 ?_
  refine vv_iload_n (pc := 18) d_M_push_18 rfl ?_
  refine vv_iasN (pc := 19) (j := 0) d_M_push_19 (by decide) H50 (by decide) (by decide) ?_
  refine vv_aload_n (pc := 20) d_M_push_20 rfl ?_
  refine vv_getf (pc := 21) d_M_push_21 fl_M_82 (by decide) H26 E26_32 ?_
  refine vv_aload_n (pc := 24) d_M_push_24 rfl ?_
  refine vv_getf (pc := 25) d_M_push_25 fl_M_191 (by decide) H26 E26_29 ?_
  refine vv_iload_n (pc := 28) d_M_push_28 rfl ?_
  refine vv_iasN (pc := 29) (j := 0) d_M_push_29 (by decide) H51 (by decide) (by decide) ?_
  refine vv_aload_n (pc := 30) d_M_push_30 rfl ?_
  refine vv_dup (pc := 31) d_M_push_31 rfl ?_
  refine vv_getf (pc := 32) d_M_push_32 fl_M_191 (by decide) H26 E26_29 ?_
  refine vv_iconst (pc := 35) (v := 1) d_M_push_35 rfl ?_
  refine vv_iadd (pc := 36) d_M_push_36 ?_
  refine vv_topi (y := 1) (by decide +kernel) ?_
  refine vv_putf (pc := 37) d_M_push_37 fl_M_191 (by decide) H26 rfl rfl rfl ?_
  exact vv_vret (pc := 40) d_M_push_40 rfl
theorem x_M_read {G : cp_G} {h : Nat → cp_E} {z d : Nat} {g26 : Nat → Value} {f49 f50 f51 : Nat → Int32} (hd : 1 ≤ d) (H26 : h 26 = .inr (11, g26)) (E26_1 : g26 1 = .int 0) (E26_23 : g26 23 = .int 0) (E26_16 : g26 16 = .int 0) (E26_30 : g26 30 = .ref (cp_b G + 49)) (H49 : h 49 = .inl (cp_cI G, 400, .inl f49)) (E26_31 : g26 31 = .ref (cp_b G + 50)) (H50 : h 50 = .inl (cp_cI G, 400, .inl f50)) (E26_32 : g26 32 = .ref (cp_b G + 51)) (H51 : h 51 = .inl (cp_cI G, 400, .inl f51)) : cp_C G d m_M_read [.ref (cp_b G + 26), .int 200, .int 2, .int 1] h 86 z (some (.int 0)) (va_up (va_up (va_up (va_up (va_up (va_up (va_up (va_up h 26 (.inr (11, (va_up g26 1 (.int 0))))) 26 (.inr (11, (va_up (va_up g26 1 (.int 0)) 29 (.int 0))))) 26 (.inr (11, (va_up (va_up (va_up g26 1 (.int 0)) 29 (.int 0)) 33 (.int 0))))) 26 (.inr (11, (va_up (va_up (va_up (va_up g26 1 (.int 0)) 29 (.int 0)) 33 (.int 0)) 20 (.int 0))))) 49 (.inl (cp_cI G, 400, .inl (upd f49 0 200)))) 50 (.inl (cp_cI G, 400, .inl (upd f50 0 2)))) 51 (.inl (cp_cI G, 400, .inl (upd f51 0 1)))) 26 (.inr (11, (va_up (va_up (va_up (va_up (va_up g26 1 (.int 0)) 29 (.int 0)) 33 (.int 0)) 20 (.int 0)) 29 (.int 1))))) 86 (z + 0) := by
  refine cp_C.of rfl (Nat.le_of_ble_eq_true rfl) ?_
  refine vv_aload_n (pc := 0) d_M_read_0 rfl ?_
  refine vv_getf (pc := 1) d_M_read_1 fl_M_188 (by decide) H26 E26_1 ?_
  refine vv_istore (pc := 4) d_M_read_4 (Nat.le_of_ble_eq_true rfl) ?_
  refine vv_aload_n (pc := 6) d_M_read_6 rfl ?_
  refine vv_iconst (pc := 7) (v := 0) d_M_read_7 rfl ?_
  refine vv_putf (pc := 8) d_M_read_8 fl_M_188 (by decide) H26 rfl rfl rfl ?_
  refine vv_aload_n (pc := 11) d_M_read_11 rfl ?_
  refine vv_iconst (pc := 12) (v := 0) d_M_read_12 rfl ?_
  refine vv_putf (pc := 13) d_M_read_13 fl_M_191 (by decide) rfl rfl rfl rfl ?_
  refine vv_aload_n (pc := 16) d_M_read_16 rfl ?_
  refine vv_aload_n (pc := 17) d_M_read_17 rfl ?_
  refine vv_getf (pc := 18) d_M_read_18 fl_M_253 (by decide) rfl E26_23 ?_
  refine vv_putf (pc := 21) d_M_read_21 fl_M_222 (by decide) rfl rfl rfl rfl ?_
  refine vv_aload_n (pc := 24) d_M_read_24 rfl ?_
  refine vv_aload_n (pc := 25) d_M_read_25 rfl ?_
  refine vv_getf (pc := 26) d_M_read_26 fl_M_194 (by decide) rfl E26_16 ?_
  refine vv_putf (pc := 29) d_M_read_29 fl_M_197 (by decide) rfl rfl rfl rfl ?_
  refine vv_aload_n (pc := 32) d_M_read_32 rfl ?_
  refine vv_iload_n (pc := 33) d_M_read_33 rfl ?_
  refine vv_iload_n (pc := 34) d_M_read_34 rfl ?_
  refine vv_iload_n (pc := 35) d_M_read_35 rfl ?_
  refine vv_callV (pc := 36) (As := [.int 200, .int 2, .int 1]) d_M_read_36 (x_M_push (d := d - 1) (by omega) rfl E26_30 rfl H49 E26_31 H50 E26_32 H51) k_M_push ml_M_218.1 ml_M_218.2.1 ml_M_218.2.2.1 ml_M_218.2.2.2.1 ml_M_218.2.2.2.2 (by decide) rfl (by omega) (Nat.le_of_ble_eq_true rfl) ?_
  refine vv_iconst (pc := 39) (v := 0) d_M_read_39 rfl ?_
  refine vv_istore (pc := 40) d_M_read_40 (Nat.le_of_ble_eq_true rfl) ?_
  refine vv_iload (pc := 42) d_M_read_42 rfl ?_
  refine vv_iload (pc := 44) d_M_read_44 rfl ?_
  refine vv_icmp_ge (pc := 46) (tgt := 74) d_M_read_46 rfl (fun _ => ?_) (fun hc => absurd (by decide +kernel) hc)
  refine vv_iconst (pc := 74) (v := 1) d_M_read_74 rfl ?_
  refine vv_istore (pc := 75) d_M_read_75 (Nat.le_of_ble_eq_true rfl) ?_
  refine vv_iconst (pc := 77) (v := 0) d_M_read_77 rfl ?_
  refine vv_istore (pc := 78) d_M_read_78 (Nat.le_of_ble_eq_true rfl) ?_
  refine vv_iload (pc := 80) d_M_read_80 rfl ?_
  refine vv_aload_n (pc := 82) d_M_read_82 rfl ?_
  refine vv_getf (pc := 83) d_M_read_83 fl_M_191 (by decide) rfl rfl ?_
  refine vv_icmp_ge (pc := 86) (tgt := 181) d_M_read_86 rfl (fun hc => absurd hc (by decide +kernel)) (fun _ => ?_)
  refine vv_aload_n (pc := 89) d_M_read_89 rfl ?_
  refine vv_getf (pc := 90) d_M_read_90 fl_M_76 (by decide) rfl E26_30 ?_
  refine vv_iload (pc := 93) d_M_read_93 rfl ?_
  refine vv_ialN (pc := 95) (j := 0) d_M_read_95 (by decide) rfl (by decide) (by decide) ?_
  refine vv_topi (y := 200) rfl ?_
  refine vv_sipush (pc := 96) (v := 201) d_M_read_96 rfl ?_
  refine vv_icmp_eq (pc := 99) (tgt := 151) d_M_read_99 rfl (fun hc => absurd hc (by decide +kernel)) (fun _ => ?_)
  refine vv_aload_n (pc := 102) d_M_read_102 rfl ?_
  refine vv_getf (pc := 103) d_M_read_103 fl_M_76 (by decide) rfl E26_30 ?_
  refine vv_iload (pc := 106) d_M_read_106 rfl ?_
  refine vv_ialN (pc := 108) (j := 0) d_M_read_108 (by decide) rfl (by decide) (by decide) ?_
  refine vv_topi (y := 200) rfl ?_
  refine vv_sipush (pc := 109) (v := 211) d_M_read_109 rfl ?_
  refine vv_icmp_eq (pc := 112) (tgt := 151) d_M_read_112 rfl (fun hc => absurd hc (by decide +kernel)) (fun _ => ?_)
  refine vv_aload_n (pc := 115) d_M_read_115 rfl ?_
  refine vv_getf (pc := 116) d_M_read_116 fl_M_76 (by decide) rfl E26_30 ?_
  refine vv_iload (pc := 119) d_M_read_119 rfl ?_
  refine vv_ialN (pc := 121) (j := 0) d_M_read_121 (by decide) rfl (by decide) (by decide) ?_
  refine vv_topi (y := 200) rfl ?_
  refine vv_sipush (pc := 122) (v := 215) d_M_read_122 rfl ?_
  refine vv_icmp_eq (pc := 125) (tgt := 151) d_M_read_125 rfl (fun hc => absurd hc (by decide +kernel)) (fun _ => ?_)
  refine vv_aload_n (pc := 128) d_M_read_128 rfl ?_
  refine vv_getf (pc := 129) d_M_read_129 fl_M_76 (by decide) rfl E26_30 ?_
  refine vv_iload (pc := 132) d_M_read_132 rfl ?_
  refine vv_ialN (pc := 134) (j := 0) d_M_read_134 (by decide) rfl (by decide) (by decide) ?_
  refine vv_topi (y := 200) rfl ?_
  refine vv_sipush (pc := 135) (v := 218) d_M_read_135 rfl ?_
  refine vv_icmp_ne (pc := 138) (tgt := 155) d_M_read_138 rfl (fun _ => ?_) (fun hc => absurd hc (by decide +kernel))
  refine vv_iconst (pc := 155) (v := 0) d_M_read_155 rfl ?_
  refine vv_istore (pc := 156) d_M_read_156 (Nat.le_of_ble_eq_true rfl) ?_
  refine vv_iload (pc := 158) d_M_read_158 rfl ?_
  refine vv_if_eq (pc := 160) (tgt := 172) d_M_read_160 rfl (fun hc => absurd hc (by decide +kernel)) (fun _ => ?_)
  refine vv_iload (pc := 163) d_M_read_163 rfl ?_
  refine vv_if_eq (pc := 165) (tgt := 172) d_M_read_165 rfl (fun _ => ?_) (fun hc => absurd (by decide +kernel) hc)
  refine vv_iconst (pc := 172) (v := 0) d_M_read_172 rfl ?_
  refine vv_istore (pc := 173) d_M_read_173 (Nat.le_of_ble_eq_true rfl) ?_
  refine vv_iinc (pc := 175) (v := 1) d_M_read_175 rfl (by decide +kernel) (Nat.le_of_ble_eq_true rfl) ?_
  refine vv_goto (pc := 178) (tgt := 80) d_M_read_178 rfl ?_
  refine vv_iload (pc := 80) d_M_read_80 rfl ?_
  refine vv_aload_n (pc := 82) d_M_read_82 rfl ?_
  refine vv_getf (pc := 83) d_M_read_83 fl_M_191 (by decide) rfl rfl ?_
  refine vv_icmp_ge (pc := 86) (tgt := 181) d_M_read_86 rfl (fun _ => ?_) (fun hc => absurd (by decide +kernel) hc)
  refine vv_iload (pc := 181) d_M_read_181 rfl ?_
  refine vv_if_eq (pc := 183) (tgt := 190) d_M_read_183 rfl (fun _ => ?_) (fun hc => absurd (by decide +kernel) hc)
  refine vv_iload (pc := 190) d_M_read_190 rfl ?_
  exact vv_iret (pc := 192) d_M_read_192 rfl
theorem x_M_nothing {G : cp_G} {h : Nat → cp_E} {z d : Nat} {g26 : Nat → Value} (hd : 0 ≤ d) (H26 : h 26 = .inr (11, g26)) : cp_C G d m_M_nothing [.ref (cp_b G + 26)] h 86 z none (va_up (va_up (va_up h 26 (.inr (11, (va_up g26 35 (.int 0))))) 26 (.inr (11, (va_up (va_up g26 35 (.int 0)) 40 (.int 0))))) 26 (.inr (11, (va_up (va_up (va_up g26 35 (.int 0)) 40 (.int 0)) 42 (.int 0))))) 86 (z + 0) := by
  refine cp_C.of rfl (Nat.le_of_ble_eq_true rfl) ?_
  refine vv_aload_n (pc := 0) d_M_nothing_0 rfl ?_
  refine vv_iconst (pc := 1) (v := 0) d_M_nothing_1 rfl ?_
  refine vv_putf (pc := 2) d_M_nothing_2 fl_M_259 (by decide) H26 rfl rfl rfl ?_
  refine vv_aload_n (pc := 5) d_M_nothing_5 rfl ?_
  refine vv_iconst (pc := 6) (v := 0) d_M_nothing_6 rfl ?_
  refine vv_putf (pc := 7) d_M_nothing_7 fl_M_262 (by decide) rfl rfl rfl rfl ?_
  refine vv_aload_n (pc := 10) d_M_nothing_10 rfl ?_
  refine vv_iconst (pc := 11) (v := 0) d_M_nothing_11 rfl ?_
  refine vv_putf (pc := 12) d_M_nothing_12 fl_M_265 (by decide) rfl rfl rfl rfl ?_
  exact vv_vret (pc := 15) d_M_nothing_15 rfl
theorem x_M_check {G : cp_G} {h : Nat → cp_E} {z d : Nat} {g26 : Nat → Value} {f49 f50 f51 f63 f64 : Nat → Int32} (hd : 2 ≤ d) (H26 : h 26 = .inr (11, g26)) (E26_16 : g26 16 = .int 0) (E26_1 : g26 1 = .int 0) (E26_23 : g26 23 = .int 0) (E26_30 : g26 30 = .ref (cp_b G + 49)) (H49 : h 49 = .inl (cp_cI G, 400, .inl f49)) (E26_31 : g26 31 = .ref (cp_b G + 50)) (H50 : h 50 = .inl (cp_cI G, 400, .inl f50)) (E26_32 : g26 32 = .ref (cp_b G + 51)) (H51 : h 51 = .inl (cp_cI G, 400, .inl f51)) (E26_50 : g26 50 = .ref (cp_b G + 63)) (H63 : h 63 = .inl (cp_cI G, 260, .inl f63)) (E26_51 : g26 51 = .ref (cp_b G + 64)) (H64 : h 64 = .inl (cp_cI G, 26, .inl f64)) : cp_C G d m_M_check [.ref (cp_b G + 26)] h 86 z (some (.int (-1))) (va_up (va_up (va_up (va_up (va_up (va_up (va_up (va_up (va_up (va_up (va_up (va_up (va_up (va_up (va_up (va_up (va_up h 26 (.inr (11, (va_up g26 0 (.int 0))))) 26 (.inr (11, (va_up (va_up g26 0 (.int 0)) 60 (.int 0))))) 26 (.inr (11, (va_up (va_up (va_up g26 0 (.int 0)) 60 (.int 0)) 79 (.int 0))))) 26 (.inr (11, (va_up (va_up (va_up (va_up g26 0 (.int 0)) 60 (.int 0)) 79 (.int 0)) 1 (.int 0))))) 26 (.inr (11, (va_up (va_up (va_up (va_up (va_up g26 0 (.int 0)) 60 (.int 0)) 79 (.int 0)) 1 (.int 0)) 29 (.int 0))))) 26 (.inr (11, (va_up (va_up (va_up (va_up (va_up (va_up g26 0 (.int 0)) 60 (.int 0)) 79 (.int 0)) 1 (.int 0)) 29 (.int 0)) 33 (.int 0))))) 26 (.inr (11, (va_up (va_up (va_up (va_up (va_up (va_up (va_up g26 0 (.int 0)) 60 (.int 0)) 79 (.int 0)) 1 (.int 0)) 29 (.int 0)) 33 (.int 0)) 20 (.int 0))))) 49 (.inl (cp_cI G, 400, .inl (upd f49 0 200)))) 50 (.inl (cp_cI G, 400, .inl (upd f50 0 2)))) 51 (.inl (cp_cI G, 400, .inl (upd f51 0 1)))) 26 (.inr (11, (va_up (va_up (va_up (va_up (va_up (va_up (va_up (va_up g26 0 (.int 0)) 60 (.int 0)) 79 (.int 0)) 1 (.int 0)) 29 (.int 0)) 33 (.int 0)) 20 (.int 0)) 29 (.int 1))))) 26 (.inr (11, (va_up (va_up (va_up (va_up (va_up (va_up (va_up (va_up (va_up g26 0 (.int 0)) 60 (.int 0)) 79 (.int 0)) 1 (.int 0)) 29 (.int 0)) 33 (.int 0)) 20 (.int 0)) 29 (.int 1)) 35 (.int 0))))) 26 (.inr (11, (va_up (va_up (va_up (va_up (va_up (va_up (va_up (va_up (va_up (va_up g26 0 (.int 0)) 60 (.int 0)) 79 (.int 0)) 1 (.int 0)) 29 (.int 0)) 33 (.int 0)) 20 (.int 0)) 29 (.int 1)) 35 (.int 0)) 40 (.int 0))))) 26 (.inr (11, (va_up (va_up (va_up (va_up (va_up (va_up (va_up (va_up (va_up (va_up (va_up g26 0 (.int 0)) 60 (.int 0)) 79 (.int 0)) 1 (.int 0)) 29 (.int 0)) 33 (.int 0)) 20 (.int 0)) 29 (.int 1)) 35 (.int 0)) 40 (.int 0)) 42 (.int 0))))) 63 (.inl (cp_cI G, 260, .inl (cp_fill f63 (-1) 26)))) 64 (.inl (cp_cI G, 26, .inl (cp_fill f64 (-1) 26)))) 26 (.inr (11, (va_up (va_up (va_up (va_up (va_up (va_up (va_up (va_up (va_up (va_up (va_up (va_up g26 0 (.int 0)) 60 (.int 0)) 79 (.int 0)) 1 (.int 0)) 29 (.int 0)) 33 (.int 0)) 20 (.int 0)) 29 (.int 1)) 35 (.int 0)) 40 (.int 0)) 42 (.int 0)) 16 (.int 0))))) 86 (z + 0) := by
  refine cp_C.of rfl (Nat.le_of_ble_eq_true rfl) ?_
  refine vv_aload_n (pc := 0) d_M_check_0 rfl ?_
  refine vv_iconst (pc := 1) (v := 0) d_M_check_1 rfl ?_
  refine vv_putf (pc := 2) d_M_check_2 fl_M_184 (by decide) H26 rfl rfl rfl ?_
  refine vv_aload_n (pc := 5) d_M_check_5 rfl ?_
  refine vv_iconst (pc := 6) (v := 0) d_M_check_6 rfl ?_
  refine vv_putf (pc := 7) d_M_check_7 fl_M_329 (by decide) rfl rfl rfl rfl ?_
  refine vv_aload_n (pc := 10) d_M_check_10 rfl ?_
  refine vv_iconst (pc := 11) (v := 0) d_M_check_11 rfl ?_
  refine vv_putf (pc := 12) d_M_check_12 fl_M_444 (by decide) rfl rfl rfl rfl ?_
  refine vv_aload_n (pc := 15) d_M_check_15 rfl ?_
  refine vv_getf (pc := 16) d_M_check_16 fl_M_194 (by decide) rfl E26_16 ?_
  refine vv_istore_n (pc := 19) d_M_check_19 (Nat.le_of_ble_eq_true rfl) ?_
  refine vv_aload_n (pc := 20) d_M_check_20 rfl ?_
  refine vv_sipush (pc := 21) (v := 200) d_M_check_21 rfl ?_
  refine vv_iconst (pc := 24) (v := 2) d_M_check_24 rfl ?_
  refine vv_iconst (pc := 25) (v := 1) d_M_check_25 rfl ?_
  refine vv_callV (pc := 26) (As := [.int 200, .int 2, .int 1]) d_M_check_26 (x_M_read (d := d - 1) (by omega) rfl E26_1 E26_23 E26_16 E26_30 H49 E26_31 H50 E26_32 H51) k_M_read ml_M_429.1 ml_M_429.2.1 ml_M_429.2.2.1 ml_M_429.2.2.2.1 ml_M_429.2.2.2.2 (by decide) rfl (by omega) (Nat.le_of_ble_eq_true rfl) ?_
  refine vv_istore_n (pc := 29) d_M_check_29 (Nat.le_of_ble_eq_true rfl) ?_
  refine vv_aload_n (pc := 30) d_M_check_30 rfl ?_
  refine vv_callV (pc := 31) (As := []) d_M_check_31 (x_M_nothing (d := d - 1) (by omega) rfl) k_M_nothing ml_M_410.1 ml_M_410.2.1 ml_M_410.2.2.1 ml_M_410.2.2.2.1 ml_M_410.2.2.2.2 (by decide) rfl (by omega) (Nat.le_of_ble_eq_true rfl) ?_
  refine vv_aload_n (pc := 34) d_M_check_34 rfl ?_
  refine vv_callV (pc := 35) (As := []) d_M_check_35 (x_M_noNames (d := d - 1) (by decide) rfl E26_50 H63 E26_51 H64) k_M_noNames ml_M_413.1 ml_M_413.2.1 ml_M_413.2.2.1 ml_M_413.2.2.2.1 ml_M_413.2.2.2.2 (by decide) rfl (by omega) (Nat.le_of_ble_eq_true rfl) ?_
  refine vv_iload_n (pc := 38) d_M_check_38 rfl ?_
  refine vv_if_lt (pc := 39) (tgt := 46) d_M_check_39 rfl (fun hc => absurd hc (by decide +kernel)) (fun _ => ?_)
  refine vv_iconst (pc := 42) (v := (-1)) d_M_check_42 rfl ?_
  refine vv_goto (pc := 43) (tgt := 51) d_M_check_43 rfl ?_
  refine vv_istore_n (pc := 51) d_M_check_51 (Nat.le_of_ble_eq_true rfl) ?_
  refine vv_aload_n (pc := 52) d_M_check_52 rfl ?_
  refine vv_iload_n (pc := 53) d_M_check_53 rfl ?_
  refine vv_putf (pc := 54) d_M_check_54 fl_M_194 (by decide) rfl rfl rfl rfl ?_
  refine vv_iload_n (pc := 57) d_M_check_57 rfl ?_
  refine vv_iconst (pc := 58) (v := (-1)) d_M_check_58 rfl ?_
  refine vv_icmp_ne (pc := 59) (tgt := 80) d_M_check_59 rfl (fun hc => absurd (by decide +kernel) hc) (fun _ => ?_)
  refine vv_iload_n (pc := 62) d_M_check_62 rfl ?_
  refine vv_if_lt (pc := 63) (tgt := 72) d_M_check_63 rfl (fun hc => absurd hc (by decide +kernel)) (fun _ => ?_)
  refine vv_iconst (pc := 66) (v := (-1)) d_M_check_66 rfl ?_
  refine vv_iload_n (pc := 67) d_M_check_67 rfl ?_
  refine vv_isub (pc := 68) d_M_check_68 ?_
  refine vv_topi (y := (-1)) (by decide +kernel) ?_
  refine vv_goto (pc := 69) (tgt := 79) d_M_check_69 rfl ?_
  exact vv_iret (pc := 79) d_M_check_79 rfl
theorem p_law_4 {G : cp_G} {h : Nat → cp_E} {z d bb : Nat} {xs : Nat → Int32} {g0 g21 g6 g7 g14 g15 g17 g19 g23 g26 : Nat → Value} {f1 f49 f50 f51 f63 f64 : Nat → Int32} (hS : cp_scr G bb 2 xs) (hd : 4 ≤ d) (H0 : h 0 = .inr (0, g0)) (E0_7 : g0 7 = .ref (cp_b G + 21)) (E0_0 : g0 0 = .ref (cp_b G + 1)) (E0_1 : g0 1 = .int 0) (H21 : h 21 = .inr (5, g21)) (H1 : h 1 = .inl (cp_cC G, 80, .inl f1)) (E0_5 : g0 5 = .ref (cp_b G + 6)) (H6 : h 6 = .inr (2, g6)) (E6_0 : g6 0 = .ref (cp_b G + 7)) (H7 : h 7 = .inr (3, g7)) (E7_1 : g7 1 = .int 0) (E0_6 : g0 6 = .ref (cp_b G + 14)) (H14 : h 14 = .inr (4, g14)) (E14_0 : g14 0 = .ref (cp_b G + 15)) (H15 : h 15 = .inr (3, g15)) (E15_1 : g15 1 = .int 0) (E14_1 : g14 1 = .ref (cp_b G + 17)) (H17 : h 17 = .inr (3, g17)) (E17_1 : g17 1 = .int 0) (E14_2 : g14 2 = .ref (cp_b G + 19)) (H19 : h 19 = .inr (3, g19)) (E19_1 : g19 1 = .int 0) (E0_8 : g0 8 = .ref (cp_b G + 23)) (H23 : h 23 = .inr (6, g23)) (H26 : h 26 = .inr (11, g26)) (E26_16 : g26 16 = .int 0) (E26_1 : g26 1 = .int 0) (E26_23 : g26 23 = .int 0) (E26_30 : g26 30 = .ref (cp_b G + 49)) (H49 : h 49 = .inl (cp_cI G, 400, .inl f49)) (E26_31 : g26 31 = .ref (cp_b G + 50)) (H50 : h 50 = .inl (cp_cI G, 400, .inl f50)) (E26_32 : g26 32 = .ref (cp_b G + 51)) (H51 : h 51 = .inl (cp_cI G, 400, .inl f51)) (E26_50 : g26 50 = .ref (cp_b G + 63)) (H63 : h 63 = .inl (cp_cI G, 260, .inl f63)) (E26_51 : g26 51 = .ref (cp_b G + 64)) (H64 : h 64 = .inl (cp_cI G, 26, .inl f64)) : cp_V G m_law d 0 0 (.inl (some (.int 1))) (va_up (va_up (va_up (va_up (va_up (va_up (va_up (va_up (va_up (va_up (va_up (va_up (va_up (va_up (va_up (va_up (va_up (va_up (va_up (va_up (va_up (va_up (va_up h 21 (.inr (5, (va_up g21 0 (.ref (cp_b G + 1)))))) 21 (.inr (5, (va_up (va_up g21 0 (.ref (cp_b G + 1))) 1 (.int 0))))) 21 (.inr (5, (va_up (va_up (va_up g21 0 (.ref (cp_b G + 1))) 1 (.int 0)) 2 (.int 0))))) 0 (.inr (0, (va_up g0 1 (.int 0))))) 23 (.inr (6, (va_up g23 4 (.int 0))))) 0 (.inr (0, (va_up (va_up g0 1 (.int 0)) 11 (.null))))) 26 (.inr (11, (va_up g26 0 (.int 0))))) 26 (.inr (11, (va_up (va_up g26 0 (.int 0)) 60 (.int 0))))) 26 (.inr (11, (va_up (va_up (va_up g26 0 (.int 0)) 60 (.int 0)) 79 (.int 0))))) 26 (.inr (11, (va_up (va_up (va_up (va_up g26 0 (.int 0)) 60 (.int 0)) 79 (.int 0)) 1 (.int 0))))) 26 (.inr (11, (va_up (va_up (va_up (va_up (va_up g26 0 (.int 0)) 60 (.int 0)) 79 (.int 0)) 1 (.int 0)) 29 (.int 0))))) 26 (.inr (11, (va_up (va_up (va_up (va_up (va_up (va_up g26 0 (.int 0)) 60 (.int 0)) 79 (.int 0)) 1 (.int 0)) 29 (.int 0)) 33 (.int 0))))) 26 (.inr (11, (va_up (va_up (va_up (va_up (va_up (va_up (va_up g26 0 (.int 0)) 60 (.int 0)) 79 (.int 0)) 1 (.int 0)) 29 (.int 0)) 33 (.int 0)) 20 (.int 0))))) 49 (.inl (cp_cI G, 400, .inl (upd f49 0 200)))) 50 (.inl (cp_cI G, 400, .inl (upd f50 0 2)))) 51 (.inl (cp_cI G, 400, .inl (upd f51 0 1)))) 26 (.inr (11, (va_up (va_up (va_up (va_up (va_up (va_up (va_up (va_up g26 0 (.int 0)) 60 (.int 0)) 79 (.int 0)) 1 (.int 0)) 29 (.int 0)) 33 (.int 0)) 20 (.int 0)) 29 (.int 1))))) 26 (.inr (11, (va_up (va_up (va_up (va_up (va_up (va_up (va_up (va_up (va_up g26 0 (.int 0)) 60 (.int 0)) 79 (.int 0)) 1 (.int 0)) 29 (.int 0)) 33 (.int 0)) 20 (.int 0)) 29 (.int 1)) 35 (.int 0))))) 26 (.inr (11, (va_up (va_up (va_up (va_up (va_up (va_up (va_up (va_up (va_up (va_up g26 0 (.int 0)) 60 (.int 0)) 79 (.int 0)) 1 (.int 0)) 29 (.int 0)) 33 (.int 0)) 20 (.int 0)) 29 (.int 1)) 35 (.int 0)) 40 (.int 0))))) 26 (.inr (11, (va_up (va_up (va_up (va_up (va_up (va_up (va_up (va_up (va_up (va_up (va_up g26 0 (.int 0)) 60 (.int 0)) 79 (.int 0)) 1 (.int 0)) 29 (.int 0)) 33 (.int 0)) 20 (.int 0)) 29 (.int 1)) 35 (.int 0)) 40 (.int 0)) 42 (.int 0))))) 63 (.inl (cp_cI G, 260, .inl (cp_fill f63 (-1) 26)))) 64 (.inl (cp_cI G, 26, .inl (cp_fill f64 (-1) 26)))) 26 (.inr (11, (va_up (va_up (va_up (va_up (va_up (va_up (va_up (va_up (va_up (va_up (va_up (va_up g26 0 (.int 0)) 60 (.int 0)) 79 (.int 0)) 1 (.int 0)) 29 (.int 0)) 33 (.int 0)) 20 (.int 0)) 29 (.int 1)) 35 (.int 0)) 40 (.int 0)) 42 (.int 0)) 16 (.int 0))))) 86 (z + 0) 260 [(4, .int 0), (3, .ref (cp_b G + 85)), (2, .ref (cp_b G + 26)), (1, .ref (cp_b G + 0)), (0, .ref bb)] [] h 86 z := by
  refine vv_aload_n (pc := 260) d_law_260 rfl ?_
  refine vv_callV (pc := 261) (As := []) d_law_261 (x_P_check (d := d - 1) (by omega) H0 E0_7 E0_0 E0_1 H21 H1 E0_5 H6 E6_0 H7 E7_1 E0_6 H14 E14_0 H15 E15_1 E14_1 H17 E17_1 E14_2 H19 E19_1 E0_8 H23) k_P_check ml_L_57.1 ml_L_57.2.1 ml_L_57.2.2.1 ml_L_57.2.2.2.1 ml_L_57.2.2.2.2 (by decide) H0 (by omega) (Nat.le_of_ble_eq_true rfl) ?_
  refine vv_aload_n (pc := 264) d_law_264 rfl ?_
  refine vv_callV (pc := 265) (As := []) d_law_265 (x_M_check (d := d - 1) (by omega) H26 E26_16 E26_1 E26_23 E26_30 H49 E26_31 H50 E26_32 H51 E26_50 H63 E26_51 H64) k_M_check ml_L_60.1 ml_L_60.2.1 ml_L_60.2.2.1 ml_L_60.2.2.2.1 ml_L_60.2.2.2.2 (by decide) H26 (by omega) (Nat.le_of_ble_eq_true rfl) ?_
  refine vv_icmp_eq (pc := 268) (tgt := 518) d_law_268 rfl (fun _ => ?_) (fun hc => absurd (by decide +kernel) hc)
  refine vv_iinc (pc := 518) (v := 2) d_law_518 rfl (by decide +kernel) (Nat.le_of_ble_eq_true rfl) ?_
  refine vv_goto (pc := 521) (tgt := 23) d_law_521 rfl ?_
  refine vv_iload (pc := 23) d_law_23 rfl ?_
  refine vv_aload_n (pc := 25) d_law_25 rfl ?_
  refine vv_slen (pc := 26) hS d_law_26 ?_
  refine vv_topi (y := 2) (by decide +kernel) ?_
  refine vv_iconst (pc := 27) (v := 2) d_law_27 rfl ?_
  refine vv_isub (pc := 28) d_law_28 ?_
  refine vv_topi (y := 0) (by decide +kernel) ?_
  refine vv_icmp_gt (pc := 29) (tgt := 524) d_law_29 rfl (fun _ => ?_) (fun hc => absurd (by decide +kernel) hc)
  refine vv_iconst (pc := 524) (v := 1) d_law_524 rfl ?_
  exact vv_zret (pc := 525) d_law_525 rfl rfl
theorem x_D_isEmpty {G : cp_G} {h : Nat → cp_E} {z d : Nat} {g3 : Nat → Value} (hd : 0 ≤ d) (H3 : h 3 = .inr (1, g3)) (E3_2 : g3 2 = .int 0) : cp_C G d m_D_isEmpty [.ref (cp_b G + 3)] h 86 z (some (.int 1)) h 86 (z + 0) := by
  refine cp_C.of rfl (Nat.le_of_ble_eq_true rfl) ?_
  refine vv_aload_n (pc := 0) d_D_isEmpty_0 rfl ?_
  refine vv_getf (pc := 1) d_D_isEmpty_1 fl_D_21 (by decide) H3 E3_2 ?_
  refine vv_if_ne (pc := 4) (tgt := 11) d_D_isEmpty_4 rfl (fun hc => absurd (by decide +kernel) hc) (fun _ => ?_)
  refine vv_iconst (pc := 7) (v := 1) d_D_isEmpty_7 rfl ?_
  refine vv_goto (pc := 8) (tgt := 12) d_D_isEmpty_8 rfl ?_
  exact vv_zret (pc := 12) d_D_isEmpty_12 rfl rfl
theorem x_P_retract {G : cp_G} {h : Nat → cp_E} {z d : Nat} {g0 g3 : Nat → Value} (hd : 6 ≤ d) (H0 : h 0 = .inr (0, g0)) (E0_4 : g0 4 = .ref (cp_b G + 3)) (H3 : h 3 = .inr (1, g3)) (E3_2 : g3 2 = .int 0) : cp_CT G d m_P_retract [.ref (cp_b G + 0)] h 86 z 13 86 (va_up h 86 cp_junk) 87 (z + 6) := by
  refine cp_CT.of rfl (Nat.le_of_ble_eq_true rfl) ?_
  refine vv_aload_n (pc := 0) d_P_retract_0 rfl ?_
  refine vv_getf (pc := 1) d_P_retract_1 fl_P_26 (by decide) H0 E0_4 ?_
  refine vv_callV (pc := 4) (As := []) d_P_retract_4 (x_D_isEmpty (d := d - 1) (by omega) H3 E3_2) k_D_isEmpty ml_P_160.1 ml_P_160.2.1 ml_P_160.2.2.1 ml_P_160.2.2.2.1 ml_P_160.2.2.2.2 (by decide) H3 (by omega) (Nat.le_of_ble_eq_true rfl) ?_
  refine vv_if_eq (pc := 7) (tgt := 20) d_P_retract_7 rfl (fun hc => absurd hc (by decide +kernel)) (fun _ => ?_)
  exact vv_throw (pc := 10) (tx := "nothing is declared") d_P_retract_10 d_P_retract_13 d_P_retract_14 d_P_retract_16 d_P_retract_19 cp_ok13 cl_P_144 rfl cp_thr13 (by decide) cp_fit13 (by omega) (Nat.le_of_ble_eq_true rfl) k_P_retract.1
theorem x_L_retract {G : cp_G} {h : Nat → cp_E} {z d : Nat} {g0 g3 : Nat → Value} (hd : 7 ≤ d) (H0 : h 0 = .inr (0, g0)) (E0_4 : g0 4 = .ref (cp_b G + 3)) (H3 : h 3 = .inr (1, g3)) (E3_2 : g3 2 = .int 0) : cp_CW G d m_L_retract [(0, 8, 11, 15)] [.ref (cp_b G + 0), .ref (cp_b G + 85)] h 86 z (some (.int 1)) (va_up h 86 cp_junk) 87 (z + 6) := by
  refine cp_CW.of rfl (Nat.le_of_ble_eq_true rfl) ?_
  refine vv_aload_n (pc := 0) d_L_retract_0 rfl ?_
  refine vv_iconst (pc := 1) (v := 0) d_L_retract_1 rfl ?_
  refine vv_aload_n (pc := 2) d_L_retract_2 rfl ?_
  refine vv_catch (pc := 3) (As := []) (hh := [(0, 8, 11, 15)]) (hpc := 11) d_L_retract_3 (x_P_retract (d := d - 1) (by omega) H0 E0_4 H3 E3_2) k_P_retract ml_L_24.1 ml_L_24.2.1 ml_L_24.2.2.1 ml_L_24.2.2.2.1 ml_L_24.2.2.2.2 (by decide) H0 (by omega) (Nat.le_of_ble_eq_true rfl) (List.mem_of_getElem? (i := 3) rfl) rfl cl_L_13 cl_L_15 rfl ?_
  refine vv_astore_n (pc := 11) d_L_retract_11 cp_isr_r (Nat.le_of_ble_eq_true rfl) ?_
  refine vv_iconst (pc := 12) (v := 1) d_L_retract_12 rfl ?_
  exact vv_iret (pc := 13) d_L_retract_13 rfl
theorem x_M_retract {G : cp_G} {h : Nat → cp_E} {z d : Nat} {g26 : Nat → Value} (hd : 0 ≤ d) (H26 : h 26 = .inr (11, g26)) (E26_14 : g26 14 = .int 0) : cp_C G d m_M_retract [.ref (cp_b G + 26)] h 87 z (some (.int 0)) (va_up h 26 (.inr (11, (va_up g26 0 (.int 1))))) 87 (z + 0) := by
  refine cp_C.of rfl (Nat.le_of_ble_eq_true rfl) ?_
  refine vv_aload_n (pc := 0) d_M_retract_0 rfl ?_
  refine vv_aload_n (pc := 1) d_M_retract_1 rfl ?_
  refine vv_getf (pc := 2) d_M_retract_2 fl_M_422 (by decide) H26 E26_14 ?_
  refine vv_if_ne (pc := 5) (tgt := 12) d_M_retract_5 rfl (fun hc => absurd (by decide +kernel) hc) (fun _ => ?_)
  refine vv_iconst (pc := 8) (v := 1) d_M_retract_8 rfl ?_
  refine vv_goto (pc := 9) (tgt := 13) d_M_retract_9 rfl ?_
  refine vv_putf (pc := 13) d_M_retract_13 fl_M_184 (by decide) H26 rfl rfl rfl ?_
  refine vv_aload_n (pc := 16) d_M_retract_16 rfl ?_
  refine vv_getf (pc := 17) d_M_retract_17 fl_M_184 (by decide) rfl rfl ?_
  refine vv_if_le (pc := 20) (tgt := 25) d_M_retract_20 rfl (fun hc => absurd hc (by decide +kernel)) (fun _ => ?_)
  refine vv_iconst (pc := 23) (v := 0) d_M_retract_23 rfl ?_
  exact vv_zret (pc := 24) d_M_retract_24 rfl rfl
theorem x_M_thrown {G : cp_G} {h : Nat → cp_E} {z d : Nat} {g26 : Nat → Value} (hd : 0 ≤ d) (H26 : h 26 = .inr (11, g26)) (E26_0 : g26 0 = .int 1) : cp_C G d m_M_thrown [.ref (cp_b G + 26)] h 87 z (some (.int 1)) h 87 (z + 0) := by
  refine cp_C.of rfl (Nat.le_of_ble_eq_true rfl) ?_
  refine vv_aload_n (pc := 0) d_M_thrown_0 rfl ?_
  refine vv_getf (pc := 1) d_M_thrown_1 fl_M_184 (by decide) H26 E26_0 ?_
  exact vv_iret (pc := 4) d_M_thrown_4 rfl
theorem p_law_6 {G : cp_G} {h : Nat → cp_E} {z d bb : Nat} {xs : Nat → Int32} {g0 g3 g26 : Nat → Value} (hS : cp_scr G bb 2 xs) (hd : 8 ≤ d) (H0 : h 0 = .inr (0, g0)) (E0_4 : g0 4 = .ref (cp_b G + 3)) (H3 : h 3 = .inr (1, g3)) (E3_2 : g3 2 = .int 0) (H26 : h 26 = .inr (11, g26)) (E26_14 : g26 14 = .int 0) : cp_V G m_law d 0 0 (.inl (some (.int 1))) (va_up (va_up h 86 cp_junk) 26 (.inr (11, (va_up g26 0 (.int 1))))) 87 (z + 6) 311 [(4, .int 0), (3, .ref (cp_b G + 85)), (2, .ref (cp_b G + 26)), (1, .ref (cp_b G + 0)), (0, .ref bb)] [] h 86 z := by
  refine vv_aload_n (pc := 311) d_law_311 rfl ?_
  refine vv_aload_n (pc := 312) d_law_312 rfl ?_
  refine vv_callSW (pc := 313) (As := [.ref (cp_b G + 0), .ref (cp_b G + 85)]) (hh := [(0, 8, 11, 15)]) d_law_313 (x_L_retract (d := d - 1) (by omega) H0 E0_4 H3 E3_2) cw_L_retract ci_L_retract (by decide) ⟨by decide, by decide⟩ cn_L_retract ml_L_65.1 ml_L_65.2 (by omega) (Nat.le_of_ble_eq_true rfl) ?_
  refine vv_istore (pc := 316) d_law_316 (Nat.le_of_ble_eq_true rfl) ?_
  refine vv_aload_n (pc := 318) d_law_318 rfl ?_
  refine vv_callV (pc := 319) (As := []) d_law_319 (x_M_retract (d := d - 1) (by omega) H26 E26_14) k_M_retract ml_L_68.1 ml_L_68.2.1 ml_L_68.2.2.1 ml_L_68.2.2.2.1 ml_L_68.2.2.2.2 (by decide) H26 (by omega) (Nat.le_of_ble_eq_true rfl) ?_
  refine vv_istore (pc := 322) d_law_322 (Nat.le_of_ble_eq_true rfl) ?_
  refine vv_aload_n (pc := 324) d_law_324 rfl ?_
  refine vv_callV (pc := 325) (As := []) d_law_325 (x_M_thrown (d := d - 1) (by omega) rfl rfl) k_M_thrown ml_L_51.1 ml_L_51.2.1 ml_L_51.2.2.1 ml_L_51.2.2.2.1 ml_L_51.2.2.2.2 (by decide) rfl (by omega) (Nat.le_of_ble_eq_true rfl) ?_
  refine vv_iload (pc := 328) d_law_328 rfl ?_
  refine vv_icmp_eq (pc := 330) (tgt := 335) d_law_330 rfl (fun _ => ?_) (fun hc => absurd (by decide +kernel) hc)
  refine vv_iload (pc := 335) d_law_335 rfl ?_
  refine vv_if_ne (pc := 337) (tgt := 352) d_law_337 rfl (fun _ => ?_) (fun hc => absurd hc (by decide +kernel))
  refine vv_goto (pc := 352) (tgt := 518) d_law_352 rfl ?_
  refine vv_iinc (pc := 518) (v := 2) d_law_518 rfl (by decide +kernel) (Nat.le_of_ble_eq_true rfl) ?_
  refine vv_goto (pc := 521) (tgt := 23) d_law_521 rfl ?_
  refine vv_iload (pc := 23) d_law_23 rfl ?_
  refine vv_aload_n (pc := 25) d_law_25 rfl ?_
  refine vv_slen (pc := 26) hS d_law_26 ?_
  refine vv_topi (y := 2) (by decide +kernel) ?_
  refine vv_iconst (pc := 27) (v := 2) d_law_27 rfl ?_
  refine vv_isub (pc := 28) d_law_28 ?_
  refine vv_topi (y := 0) (by decide +kernel) ?_
  refine vv_icmp_gt (pc := 29) (tgt := 524) d_law_29 rfl (fun _ => ?_) (fun hc => absurd (by decide +kernel) hc)
  refine vv_iconst (pc := 524) (v := 1) d_law_524 rfl ?_
  exact vv_zret (pc := 525) d_law_525 rfl rfl
theorem x_U_allSteps {G : cp_G} {h : Nat → cp_E} {z d : Nat} {g23 : Nat → Value} (hd : 0 ≤ d) (H23 : h 23 = .inr (6, g23)) (E23_4 : g23 4 = .int 0) : cp_C G d m_U_allSteps [.ref (cp_b G + 23)] h 86 z (some (.int 0)) h 86 (z + 0) := by
  refine cp_C.of rfl (Nat.le_of_ble_eq_true rfl) ?_
  refine vv_aload_n (pc := 0) d_U_allSteps_0 rfl ?_
  refine vv_getf (pc := 1) d_U_allSteps_1 fl_U_27 (by decide) H23 E23_4 ?_
  exact vv_iret (pc := 4) d_U_allSteps_4 rfl
theorem x_P_steps {G : cp_G} {h : Nat → cp_E} {z d : Nat} {g0 g23 : Nat → Value} (hd : 1 ≤ d) (H0 : h 0 = .inr (0, g0)) (E0_8 : g0 8 = .ref (cp_b G + 23)) (H23 : h 23 = .inr (6, g23)) (E23_4 : g23 4 = .int 0) : cp_C G d m_P_steps [.ref (cp_b G + 0)] h 86 z (some (.int 0)) h 86 (z + 0) := by
  refine cp_C.of rfl (Nat.le_of_ble_eq_true rfl) ?_
  refine vv_aload_n (pc := 0) d_P_steps_0 rfl ?_
  refine vv_getf (pc := 1) d_P_steps_1 fl_P_56 (by decide) H0 E0_8 ?_
  refine vv_callV (pc := 4) (As := []) d_P_steps_4 (x_U_allSteps (d := d - 1) (by omega) H23 E23_4) k_U_allSteps ml_P_197.1 ml_P_197.2.1 ml_P_197.2.2.1 ml_P_197.2.2.2.1 ml_P_197.2.2.2.2 (by decide) H23 (by omega) (Nat.le_of_ble_eq_true rfl) ?_
  exact vv_iret (pc := 7) d_P_steps_7 rfl
theorem x_M_steps {G : cp_G} {h : Nat → cp_E} {z d : Nat} {g26 : Nat → Value} (hd : 0 ≤ d) (H26 : h 26 = .inr (11, g26)) (E26_60 : g26 60 = .int 0) : cp_C G d m_M_steps [.ref (cp_b G + 26)] h 86 z (some (.int 0)) (va_up h 26 (.inr (11, (va_up g26 0 (.int 0))))) 86 (z + 0) := by
  refine cp_C.of rfl (Nat.le_of_ble_eq_true rfl) ?_
  refine vv_aload_n (pc := 0) d_M_steps_0 rfl ?_
  refine vv_iconst (pc := 1) (v := 0) d_M_steps_1 rfl ?_
  refine vv_putf (pc := 2) d_M_steps_2 fl_M_184 (by decide) H26 rfl rfl rfl ?_
  refine vv_aload_n (pc := 5) d_M_steps_5 rfl ?_
  refine vv_getf (pc := 6) d_M_steps_6 fl_M_329 (by decide) rfl E26_60 ?_
  exact vv_iret (pc := 9) d_M_steps_9 rfl
theorem p_law_8 {G : cp_G} {h : Nat → cp_E} {z d bb : Nat} {xs : Nat → Int32} {g0 g23 g26 : Nat → Value} (hS : cp_scr G bb 2 xs) (hd : 2 ≤ d) (H0 : h 0 = .inr (0, g0)) (E0_8 : g0 8 = .ref (cp_b G + 23)) (H23 : h 23 = .inr (6, g23)) (E23_4 : g23 4 = .int 0) (H26 : h 26 = .inr (11, g26)) (E26_60 : g26 60 = .int 0) : cp_V G m_law d 0 0 (.inl (some (.int 1))) (va_up h 26 (.inr (11, (va_up g26 0 (.int 0))))) 86 (z + 0) 413 [(4, .int 0), (3, .ref (cp_b G + 85)), (2, .ref (cp_b G + 26)), (1, .ref (cp_b G + 0)), (0, .ref bb)] [] h 86 z := by
  refine vv_aload_n (pc := 413) d_law_413 rfl ?_
  refine vv_callV (pc := 414) (As := []) d_law_414 (x_P_steps (d := d - 1) (by omega) H0 E0_8 H23 E23_4) k_P_steps ml_L_72.1 ml_L_72.2.1 ml_L_72.2.2.1 ml_L_72.2.2.2.1 ml_L_72.2.2.2.2 (by decide) H0 (by omega) (Nat.le_of_ble_eq_true rfl) ?_
  refine vv_aload_n (pc := 417) d_law_417 rfl ?_
  refine vv_callV (pc := 418) (As := []) d_law_418 (x_M_steps (d := d - 1) (by omega) H26 E26_60) k_M_steps ml_L_75.1 ml_L_75.2.1 ml_L_75.2.2.1 ml_L_75.2.2.2.1 ml_L_75.2.2.2.2 (by decide) H26 (by omega) (Nat.le_of_ble_eq_true rfl) ?_
  refine vv_icmp_eq (pc := 421) (tgt := 518) d_law_421 rfl (fun _ => ?_) (fun hc => absurd (by decide +kernel) hc)
  refine vv_iinc (pc := 518) (v := 2) d_law_518 rfl (by decide +kernel) (Nat.le_of_ble_eq_true rfl) ?_
  refine vv_goto (pc := 521) (tgt := 23) d_law_521 rfl ?_
  refine vv_iload (pc := 23) d_law_23 rfl ?_
  refine vv_aload_n (pc := 25) d_law_25 rfl ?_
  refine vv_slen (pc := 26) hS d_law_26 ?_
  refine vv_topi (y := 2) (by decide +kernel) ?_
  refine vv_iconst (pc := 27) (v := 2) d_law_27 rfl ?_
  refine vv_isub (pc := 28) d_law_28 ?_
  refine vv_topi (y := 0) (by decide +kernel) ?_
  refine vv_icmp_gt (pc := 29) (tgt := 524) d_law_29 rfl (fun _ => ?_) (fun hc => absurd (by decide +kernel) hc)
  refine vv_iconst (pc := 524) (v := 1) d_law_524 rfl ?_
  exact vv_zret (pc := 525) d_law_525 rfl rfl
theorem x_P_length {G : cp_G} {h : Nat → cp_E} {z d : Nat} {g0 : Nat → Value} (hd : 0 ≤ d) (H0 : h 0 = .inr (0, g0)) (E0_3 : g0 3 = .int 0) : cp_C G d m_P_length [.ref (cp_b G + 0)] h 86 z (some (.int 0)) h 86 (z + 0) := by
  refine cp_C.of rfl (Nat.le_of_ble_eq_true rfl) ?_
  refine vv_aload_n (pc := 0) d_P_length_0 rfl ?_
  refine vv_getf (pc := 1) d_P_length_1 fl_P_20 (by decide) H0 E0_3 ?_
  exact vv_iret (pc := 4) d_P_length_4 rfl
theorem x_M_length {G : cp_G} {h : Nat → cp_E} {z d : Nat} {g26 : Nat → Value} (hd : 0 ≤ d) (H26 : h 26 = .inr (11, g26)) (E26_3 : g26 3 = .int 0) : cp_C G d m_M_length [.ref (cp_b G + 26)] h 86 z (some (.int 0)) (va_up h 26 (.inr (11, (va_up g26 0 (.int 0))))) 86 (z + 0) := by
  refine cp_C.of rfl (Nat.le_of_ble_eq_true rfl) ?_
  refine vv_aload_n (pc := 0) d_M_length_0 rfl ?_
  refine vv_iconst (pc := 1) (v := 0) d_M_length_1 rfl ?_
  refine vv_putf (pc := 2) d_M_length_2 fl_M_184 (by decide) H26 rfl rfl rfl ?_
  refine vv_aload_n (pc := 5) d_M_length_5 rfl ?_
  refine vv_getf (pc := 6) d_M_length_6 fl_M_314 (by decide) rfl E26_3 ?_
  exact vv_iret (pc := 9) d_M_length_9 rfl
theorem p_law_11 {G : cp_G} {h : Nat → cp_E} {z d bb : Nat} {xs : Nat → Int32} {g0 g26 : Nat → Value} (hS : cp_scr G bb 2 xs) (hd : 1 ≤ d) (H0 : h 0 = .inr (0, g0)) (E0_3 : g0 3 = .int 0) (H26 : h 26 = .inr (11, g26)) (E26_3 : g26 3 = .int 0) : cp_V G m_law d 0 0 (.inl (some (.int 1))) (va_up h 26 (.inr (11, (va_up g26 0 (.int 0))))) 86 (z + 0) 480 [(4, .int 0), (3, .ref (cp_b G + 85)), (2, .ref (cp_b G + 26)), (1, .ref (cp_b G + 0)), (0, .ref bb)] [] h 86 z := by
  refine vv_aload_n (pc := 480) d_law_480 rfl ?_
  refine vv_callV (pc := 481) (As := []) d_law_481 (x_P_length (d := d - 1) (by omega) H0 E0_3) k_P_length ml_L_84.1 ml_L_84.2.1 ml_L_84.2.2.1 ml_L_84.2.2.2.1 ml_L_84.2.2.2.2 (by decide) H0 (by omega) (Nat.le_of_ble_eq_true rfl) ?_
  refine vv_aload_n (pc := 484) d_law_484 rfl ?_
  refine vv_callV (pc := 485) (As := []) d_law_485 (x_M_length (d := d - 1) (by omega) H26 E26_3) k_M_length ml_L_87.1 ml_L_87.2.1 ml_L_87.2.2.1 ml_L_87.2.2.2.1 ml_L_87.2.2.2.2 (by decide) H26 (by omega) (Nat.le_of_ble_eq_true rfl) ?_
  refine vv_icmp_eq (pc := 488) (tgt := 518) d_law_488 rfl (fun _ => ?_) (fun hc => absurd (by decide +kernel) hc)
  refine vv_iinc (pc := 518) (v := 2) d_law_518 rfl (by decide +kernel) (Nat.le_of_ble_eq_true rfl) ?_
  refine vv_goto (pc := 521) (tgt := 23) d_law_521 rfl ?_
  refine vv_iload (pc := 23) d_law_23 rfl ?_
  refine vv_aload_n (pc := 25) d_law_25 rfl ?_
  refine vv_slen (pc := 26) hS d_law_26 ?_
  refine vv_topi (y := 2) (by decide +kernel) ?_
  refine vv_iconst (pc := 27) (v := 2) d_law_27 rfl ?_
  refine vv_isub (pc := 28) d_law_28 ?_
  refine vv_topi (y := 0) (by decide +kernel) ?_
  refine vv_icmp_gt (pc := 29) (tgt := 524) d_law_29 rfl (fun _ => ?_) (fun hc => absurd (by decide +kernel) hc)
  refine vv_iconst (pc := 524) (v := 1) d_law_524 rfl ?_
  exact vv_zret (pc := 525) d_law_525 rfl rfl
theorem p_law_13 {G : cp_G} {h : Nat → cp_E} {z d bb : Nat} {xs : Nat → Int32} (hS : cp_scr G bb 2 xs) (hd : 0 ≤ d) : cp_V G m_law d 0 0 (.inl (some (.int 1))) h 86 (z + 0) 518 [(4, .int 0), (3, .ref (cp_b G + 85)), (2, .ref (cp_b G + 26)), (1, .ref (cp_b G + 0)), (0, .ref bb)] [] h 86 z := by
  refine vv_iinc (pc := 518) (v := 2) d_law_518 rfl (by decide +kernel) (Nat.le_of_ble_eq_true rfl) ?_
  refine vv_goto (pc := 521) (tgt := 23) d_law_521 rfl ?_
  refine vv_iload (pc := 23) d_law_23 rfl ?_
  refine vv_aload_n (pc := 25) d_law_25 rfl ?_
  refine vv_slen (pc := 26) hS d_law_26 ?_
  refine vv_topi (y := 2) (by decide +kernel) ?_
  refine vv_iconst (pc := 27) (v := 2) d_law_27 rfl ?_
  refine vv_isub (pc := 28) d_law_28 ?_
  refine vv_topi (y := 0) (by decide +kernel) ?_
  refine vv_icmp_gt (pc := 29) (tgt := 524) d_law_29 rfl (fun _ => ?_) (fun hc => absurd (by decide +kernel) hc)
  refine vv_iconst (pc := 524) (v := 1) d_law_524 rfl ?_
  exact vv_zret (pc := 525) d_law_525 rfl rfl
theorem x_P_isLetter_2 {G : cp_G} {h : Nat → cp_E} {z d : Nat} {c : Int32} (hc1 : c < 65) (hc2 : c - 65 < 0) (hd : 0 ≤ d) : cp_C G d m_P_isLetter [.int c] h 86 z (some (.int 0)) h 86 (z + 0) := by
  refine cp_C.of rfl (Nat.le_of_ble_eq_true rfl) ?_
  refine vv_iload_n (pc := 0) d_P_isLetter_0 rfl ?_
  refine vv_bipush (pc := 1) (v := 65) d_P_isLetter_1 rfl ?_
  refine vv_icmp_lt (pc := 3) (tgt := 16) d_P_isLetter_3 rfl (fun _ => ?_) (fun hc => absurd hc1 hc)
  refine vv_iconst (pc := 16) (v := 0) d_P_isLetter_16 rfl ?_
  exact vv_zret (pc := 17) d_P_isLetter_17 rfl rfl
theorem x_P_refuseUnlessFree {G : cp_G} {h : Nat → cp_E} {z d : Nat} {c : Int32} (hc1 : c < 65) (hc2 : c - 65 < 0) (hd : 6 ≤ d) : cp_CT G d m_P_refuseUnlessFree [.ref (cp_b G + 0), .int c] h 86 z 12 86 (va_up h 86 cp_junk) 87 (z + 6) := by
  refine cp_CT.of rfl (Nat.le_of_ble_eq_true rfl) ?_
  refine vv_iload_n (pc := 0) d_P_refuseUnlessFree_0 rfl ?_
  refine vv_callS (pc := 1) (As := [.int c]) d_P_refuseUnlessFree_1 (x_P_isLetter_2 (c := c) hc1 hc2 (d := d - 1) (by omega)) k_P_isLetter ml_P_200.1 ml_P_200.2 (by omega) (Nat.le_of_ble_eq_true rfl) ?_
  refine vv_if_ne (pc := 4) (tgt := 17) d_P_refuseUnlessFree_4 rfl (fun hc => absurd (by decide +kernel) hc) (fun _ => ?_)
  exact vv_throw (pc := 7) (tx := "not a letter A .. Z") d_P_refuseUnlessFree_7 d_P_refuseUnlessFree_10 d_P_refuseUnlessFree_11 d_P_refuseUnlessFree_13 d_P_refuseUnlessFree_16 cp_ok12 cl_P_176 rfl cp_thr12 (by decide) cp_fit12 (by omega) (Nat.le_of_ble_eq_true rfl) k_P_refuseUnlessFree.1
theorem x_P_declare {G : cp_G} {h : Nat → cp_E} {z d : Nat} {g0 : Nat → Value} {c : Int32} (hc1 : c < 65) (hc2 : c - 65 < 0) (hd : 7 ≤ d) (H0 : h 0 = .inr (0, g0)) : cp_CT G d m_P_declare [.ref (cp_b G + 0), .int c] h 86 z 12 86 (va_up h 86 cp_junk) 87 (z + 6) := by
  refine cp_CT.of rfl (Nat.le_of_ble_eq_true rfl) ?_
  refine vv_aload_n (pc := 0) d_P_declare_0 rfl ?_
  refine vv_iload_n (pc := 1) d_P_declare_1 rfl ?_
  exact vv_thV (pc := 2) (As := [.int c]) d_P_declare_2 (x_P_refuseUnlessFree (c := c) hc1 hc2 (d := d - 1) (by omega)) k_P_refuseUnlessFree ml_P_86.1 ml_P_86.2.1 ml_P_86.2.2.1 ml_P_86.2.2.2.1 ml_P_86.2.2.2.2 (by decide) H0 (by omega) (Nat.le_of_ble_eq_true rfl) k_P_declare.1
theorem x_L_declare {G : cp_G} {h : Nat → cp_E} {z d : Nat} {g0 : Nat → Value} {c : Int32} (hc1 : c < 65) (hc2 : c - 65 < 0) (hd : 8 ≤ d) (H0 : h 0 = .inr (0, g0)) : cp_CW G d m_L_declare [(0, 9, 12, 13), (0, 9, 15, 15)] [.ref (cp_b G + 0), .int c, .ref (cp_b G + 85)] h 86 z (some (.int 1)) (va_up h 86 cp_junk) 87 (z + 6) := by
  refine cp_CW.of rfl (Nat.le_of_ble_eq_true rfl) ?_
  refine vv_aload_n (pc := 0) d_L_declare_0 rfl ?_
  refine vv_iconst (pc := 1) (v := 0) d_L_declare_1 rfl ?_
  refine vv_aload_n (pc := 2) d_L_declare_2 rfl ?_
  refine vv_iload_n (pc := 3) d_L_declare_3 rfl ?_
  refine vv_catch (pc := 4) (As := [.int c]) (hh := [(0, 9, 12, 13), (0, 9, 15, 15)]) (hpc := 12) d_L_declare_4 (x_P_declare (c := c) hc1 hc2 (d := d - 1) (by omega) H0) k_P_declare ml_L_7.1 ml_L_7.2.1 ml_L_7.2.2.1 ml_L_7.2.2.2.1 ml_L_7.2.2.2.2 (by decide) H0 (by omega) (Nat.le_of_ble_eq_true rfl) (List.mem_of_getElem? (i := 0) rfl) rfl cl_L_13 cl_L_15 rfl ?_
  refine vv_astore_n (pc := 12) d_L_declare_12 cp_isr_r (Nat.le_of_ble_eq_true rfl) ?_
  refine vv_iconst (pc := 13) (v := 1) d_L_declare_13 rfl ?_
  exact vv_iret (pc := 14) d_L_declare_14 rfl
theorem x_M_isLetter {G : cp_G} {h : Nat → cp_E} {z d : Nat} {c : Int32} (hc1 : c < 65) (hc2 : c - 65 < 0) (hd : 0 ≤ d) : cp_C G d m_M_isLetter [.int c] h 87 z (some (.int 0)) h 87 (z + 0) := by
  refine cp_C.of rfl (Nat.le_of_ble_eq_true rfl) ?_
  refine vv_iload_n (pc := 0) d_M_isLetter_0 rfl ?_
  refine vv_bipush (pc := 1) (v := 65) d_M_isLetter_1 rfl ?_
  refine vv_icmp_lt (pc := 3) (tgt := 16) d_M_isLetter_3 rfl (fun _ => ?_) (fun hc => absurd hc1 hc)
  refine vv_iconst (pc := 16) (v := 0) d_M_isLetter_16 rfl ?_
  exact vv_zret (pc := 17) d_M_isLetter_17 rfl rfl
theorem x_M_mayName {G : cp_G} {h : Nat → cp_E} {z d : Nat} {g26 : Nat → Value} {c : Int32} (hc1 : c < 65) (hc2 : c - 65 < 0) (hd : 1 ≤ d) (H26 : h 26 = .inr (11, g26)) : cp_C G d m_M_mayName [.ref (cp_b G + 26), .int c] h 87 z (some (.int 0)) (va_up h 26 (.inr (11, (va_up g26 0 (.int 1))))) 87 (z + 0) := by
  refine cp_C.of rfl (Nat.le_of_ble_eq_true rfl) ?_
  refine vv_aload_n (pc := 0) d_M_mayName_0 rfl ?_
  refine vv_iload_n (pc := 1) d_M_mayName_1 rfl ?_
  refine vv_callS (pc := 2) (As := [.int c]) d_M_mayName_2 (x_M_isLetter (c := c) hc1 hc2 (d := d - 1) (by omega)) k_M_isLetter ml_M_215.1 ml_M_215.2 (by omega) (Nat.le_of_ble_eq_true rfl) ?_
  refine vv_if_ne (pc := 5) (tgt := 12) d_M_mayName_5 rfl (fun hc => absurd (by decide +kernel) hc) (fun _ => ?_)
  refine vv_iconst (pc := 8) (v := 1) d_M_mayName_8 rfl ?_
  refine vv_goto (pc := 9) (tgt := 29) d_M_mayName_9 rfl ?_
  refine vv_putf (pc := 29) d_M_mayName_29 fl_M_184 (by decide) H26 rfl rfl rfl ?_
  refine vv_aload_n (pc := 32) d_M_mayName_32 rfl ?_
  refine vv_getf (pc := 33) d_M_mayName_33 fl_M_184 (by decide) rfl rfl ?_
  refine vv_if_ne (pc := 36) (tgt := 43) d_M_mayName_36 rfl (fun _ => ?_) (fun hc => absurd hc (by decide +kernel))
  refine vv_iconst (pc := 43) (v := 0) d_M_mayName_43 rfl ?_
  exact vv_zret (pc := 44) d_M_mayName_44 rfl rfl
theorem x_M_declare {G : cp_G} {h : Nat → cp_E} {z d : Nat} {g26 : Nat → Value} {c : Int32} (hc1 : c < 65) (hc2 : c - 65 < 0) (hd : 2 ≤ d) (H26 : h 26 = .inr (11, g26)) : cp_C G d m_M_declare [.ref (cp_b G + 26), .int c] h 87 z (some (.int 0)) (va_up h 26 (.inr (11, (va_up g26 0 (.int 1))))) 87 (z + 0) := by
  refine cp_C.of rfl (Nat.le_of_ble_eq_true rfl) ?_
  refine vv_aload_n (pc := 0) d_M_declare_0 rfl ?_
  refine vv_iload_n (pc := 1) d_M_declare_1 rfl ?_
  refine vv_callV (pc := 2) (As := [.int c]) d_M_declare_2 (x_M_mayName (c := c) hc1 hc2 (d := d - 1) (by omega) H26) k_M_mayName ml_M_425.1 ml_M_425.2.1 ml_M_425.2.2.1 ml_M_425.2.2.2.1 ml_M_425.2.2.2.2 (by decide) H26 (by omega) (Nat.le_of_ble_eq_true rfl) ?_
  refine vv_if_ne (pc := 5) (tgt := 10) d_M_declare_5 rfl (fun hc => absurd (by decide +kernel) hc) (fun _ => ?_)
  refine vv_iconst (pc := 8) (v := 0) d_M_declare_8 rfl ?_
  exact vv_iret (pc := 9) d_M_declare_9 rfl
theorem x_M_thrown_2 {G : cp_G} {h : Nat → cp_E} {z d : Nat} {g26 : Nat → Value} {c : Int32} (hc1 : c < 65) (hc2 : c - 65 < 0) (hd : 0 ≤ d) (H26 : h 26 = .inr (11, g26)) (E26_0 : g26 0 = .int 1) : cp_C G d m_M_thrown [.ref (cp_b G + 26)] h 87 z (some (.int 1)) h 87 (z + 0) := by
  refine cp_C.of rfl (Nat.le_of_ble_eq_true rfl) ?_
  refine vv_aload_n (pc := 0) d_M_thrown_0 rfl ?_
  refine vv_getf (pc := 1) d_M_thrown_1 fl_M_184 (by decide) H26 E26_0 ?_
  exact vv_iret (pc := 4) d_M_thrown_4 rfl
theorem p_law_2_lo {G : cp_G} {h : Nat → cp_E} {z d bb : Nat} {xs : Nat → Int32} {g0 g26 : Nat → Value} {c : Int32} (hc1 : c < 65) (hc2 : c - 65 < 0) (hS : cp_scr G bb 2 xs) (hcx : ((xs 1).toUInt32 % 65536).toInt32 = c) (hd : 9 ≤ d) (H0 : h 0 = .inr (0, g0)) (H26 : h 26 = .inr (11, g26)) : cp_V G m_law d 0 0 (.inl (some (.int 1))) (va_up (va_up h 86 cp_junk) 26 (.inr (11, (va_up g26 0 (.int 1))))) 87 (z + 6) 144 [(4, .int 0), (3, .ref (cp_b G + 85)), (2, .ref (cp_b G + 26)), (1, .ref (cp_b G + 0)), (0, .ref bb)] [] h 86 z := by
  refine vv_aload_n (pc := 144) d_law_144 rfl ?_
  refine vv_aload_n (pc := 145) d_law_145 rfl ?_
  refine vv_iload (pc := 146) d_law_146 rfl ?_
  refine vv_iconst (pc := 148) (v := 1) d_law_148 rfl ?_
  refine vv_iadd (pc := 149) d_law_149 ?_
  refine vv_topi (y := 1) (by decide +kernel) ?_
  refine vv_sld (pc := 150) hS d_law_150 (by unfold vp_in; decide +kernel) ?_
  refine vv_topi (y := xs 1) (congrArg xs (by decide +kernel)) ?_
  refine vv_i2c (pc := 151) d_law_151 ?_
  refine vv_topi (y := c) hcx ?_
  refine vv_aload_n (pc := 152) d_law_152 rfl ?_
  refine vv_callSW (pc := 153) (As := [.ref (cp_b G + 0), .int c, .ref (cp_b G + 85)]) (hh := [(0, 9, 12, 13), (0, 9, 15, 15)]) d_law_153 (x_L_declare (c := c) hc1 hc2 (d := d - 1) (by omega) H0) cw_L_declare ci_L_declare (by decide) ⟨by decide, by decide⟩ cn_L_declare ml_L_45.1 ml_L_45.2 (by omega) (Nat.le_of_ble_eq_true rfl) ?_
  refine vv_istore (pc := 156) d_law_156 (Nat.le_of_ble_eq_true rfl) ?_
  refine vv_aload_n (pc := 158) d_law_158 rfl ?_
  refine vv_aload_n (pc := 159) d_law_159 rfl ?_
  refine vv_iload (pc := 160) d_law_160 rfl ?_
  refine vv_iconst (pc := 162) (v := 1) d_law_162 rfl ?_
  refine vv_iadd (pc := 163) d_law_163 ?_
  refine vv_topi (y := 1) (by decide +kernel) ?_
  refine vv_sld (pc := 164) hS d_law_164 (by unfold vp_in; decide +kernel) ?_
  refine vv_topi (y := xs 1) (congrArg xs (by decide +kernel)) ?_
  refine vv_i2c (pc := 165) d_law_165 ?_
  refine vv_topi (y := c) hcx ?_
  refine vv_callV (pc := 166) (As := [.int c]) d_law_166 (x_M_declare (c := c) hc1 hc2 (d := d - 1) (by omega) H26) k_M_declare ml_L_50.1 ml_L_50.2.1 ml_L_50.2.2.1 ml_L_50.2.2.2.1 ml_L_50.2.2.2.2 (by decide) H26 (by omega) (Nat.le_of_ble_eq_true rfl) ?_
  refine vv_istore (pc := 169) d_law_169 (Nat.le_of_ble_eq_true rfl) ?_
  refine vv_aload_n (pc := 171) d_law_171 rfl ?_
  refine vv_callV (pc := 172) (As := []) d_law_172 (x_M_thrown_2 (c := c) hc1 hc2 (d := d - 1) (by omega) rfl rfl) k_M_thrown ml_L_51.1 ml_L_51.2.1 ml_L_51.2.2.1 ml_L_51.2.2.2.1 ml_L_51.2.2.2.2 (by decide) rfl (by omega) (Nat.le_of_ble_eq_true rfl) ?_
  refine vv_iload (pc := 175) d_law_175 rfl ?_
  refine vv_icmp_eq (pc := 177) (tgt := 182) d_law_177 rfl (fun _ => ?_) (fun hc => absurd (by decide +kernel) hc)
  refine vv_iload (pc := 182) d_law_182 rfl ?_
  refine vv_if_ne (pc := 184) (tgt := 199) d_law_184 rfl (fun _ => ?_) (fun hc => absurd hc (by decide +kernel))
  refine vv_goto (pc := 199) (tgt := 518) d_law_199 rfl ?_
  refine vv_iinc (pc := 518) (v := 2) d_law_518 rfl (by decide +kernel) (Nat.le_of_ble_eq_true rfl) ?_
  refine vv_goto (pc := 521) (tgt := 23) d_law_521 rfl ?_
  refine vv_iload (pc := 23) d_law_23 rfl ?_
  refine vv_aload_n (pc := 25) d_law_25 rfl ?_
  refine vv_slen (pc := 26) hS d_law_26 ?_
  refine vv_topi (y := 2) (by decide +kernel) ?_
  refine vv_iconst (pc := 27) (v := 2) d_law_27 rfl ?_
  refine vv_isub (pc := 28) d_law_28 ?_
  refine vv_topi (y := 0) (by decide +kernel) ?_
  refine vv_icmp_gt (pc := 29) (tgt := 524) d_law_29 rfl (fun _ => ?_) (fun hc => absurd (by decide +kernel) hc)
  refine vv_iconst (pc := 524) (v := 1) d_law_524 rfl ?_
  exact vv_zret (pc := 525) d_law_525 rfl rfl
theorem x_P_isLetter_3 {G : cp_G} {h : Nat → cp_E} {z d : Nat} {c : Int32} (hc1 : ¬ c < 65) (hc2 : 90 < c) (hc3 : ¬ c - 65 < 0) (hc4 : 26 ≤ c - 65) (hd : 0 ≤ d) : cp_C G d m_P_isLetter [.int c] h 86 z (some (.int 0)) h 86 (z + 0) := by
  refine cp_C.of rfl (Nat.le_of_ble_eq_true rfl) ?_
  refine vv_iload_n (pc := 0) d_P_isLetter_0 rfl ?_
  refine vv_bipush (pc := 1) (v := 65) d_P_isLetter_1 rfl ?_
  refine vv_icmp_lt (pc := 3) (tgt := 16) d_P_isLetter_3 rfl (fun hc => absurd hc hc1) (fun _ => ?_)
  refine vv_iload_n (pc := 6) d_P_isLetter_6 rfl ?_
  refine vv_bipush (pc := 7) (v := 90) d_P_isLetter_7 rfl ?_
  refine vv_icmp_gt (pc := 9) (tgt := 16) d_P_isLetter_9 rfl (fun _ => ?_) (fun hc => absurd hc2 hc)
  refine vv_iconst (pc := 16) (v := 0) d_P_isLetter_16 rfl ?_
  exact vv_zret (pc := 17) d_P_isLetter_17 rfl rfl
theorem x_P_refuseUnlessFree_2 {G : cp_G} {h : Nat → cp_E} {z d : Nat} {c : Int32} (hc1 : ¬ c < 65) (hc2 : 90 < c) (hc3 : ¬ c - 65 < 0) (hc4 : 26 ≤ c - 65) (hd : 6 ≤ d) : cp_CT G d m_P_refuseUnlessFree [.ref (cp_b G + 0), .int c] h 86 z 12 86 (va_up h 86 cp_junk) 87 (z + 6) := by
  refine cp_CT.of rfl (Nat.le_of_ble_eq_true rfl) ?_
  refine vv_iload_n (pc := 0) d_P_refuseUnlessFree_0 rfl ?_
  refine vv_callS (pc := 1) (As := [.int c]) d_P_refuseUnlessFree_1 (x_P_isLetter_3 (c := c) hc1 hc2 hc3 hc4 (d := d - 1) (by omega)) k_P_isLetter ml_P_200.1 ml_P_200.2 (by omega) (Nat.le_of_ble_eq_true rfl) ?_
  refine vv_if_ne (pc := 4) (tgt := 17) d_P_refuseUnlessFree_4 rfl (fun hc => absurd (by decide +kernel) hc) (fun _ => ?_)
  exact vv_throw (pc := 7) (tx := "not a letter A .. Z") d_P_refuseUnlessFree_7 d_P_refuseUnlessFree_10 d_P_refuseUnlessFree_11 d_P_refuseUnlessFree_13 d_P_refuseUnlessFree_16 cp_ok12 cl_P_176 rfl cp_thr12 (by decide) cp_fit12 (by omega) (Nat.le_of_ble_eq_true rfl) k_P_refuseUnlessFree.1
theorem x_P_declare_2 {G : cp_G} {h : Nat → cp_E} {z d : Nat} {g0 : Nat → Value} {c : Int32} (hc1 : ¬ c < 65) (hc2 : 90 < c) (hc3 : ¬ c - 65 < 0) (hc4 : 26 ≤ c - 65) (hd : 7 ≤ d) (H0 : h 0 = .inr (0, g0)) : cp_CT G d m_P_declare [.ref (cp_b G + 0), .int c] h 86 z 12 86 (va_up h 86 cp_junk) 87 (z + 6) := by
  refine cp_CT.of rfl (Nat.le_of_ble_eq_true rfl) ?_
  refine vv_aload_n (pc := 0) d_P_declare_0 rfl ?_
  refine vv_iload_n (pc := 1) d_P_declare_1 rfl ?_
  exact vv_thV (pc := 2) (As := [.int c]) d_P_declare_2 (x_P_refuseUnlessFree_2 (c := c) hc1 hc2 hc3 hc4 (d := d - 1) (by omega)) k_P_refuseUnlessFree ml_P_86.1 ml_P_86.2.1 ml_P_86.2.2.1 ml_P_86.2.2.2.1 ml_P_86.2.2.2.2 (by decide) H0 (by omega) (Nat.le_of_ble_eq_true rfl) k_P_declare.1
theorem x_L_declare_2 {G : cp_G} {h : Nat → cp_E} {z d : Nat} {g0 : Nat → Value} {c : Int32} (hc1 : ¬ c < 65) (hc2 : 90 < c) (hc3 : ¬ c - 65 < 0) (hc4 : 26 ≤ c - 65) (hd : 8 ≤ d) (H0 : h 0 = .inr (0, g0)) : cp_CW G d m_L_declare [(0, 9, 12, 13), (0, 9, 15, 15)] [.ref (cp_b G + 0), .int c, .ref (cp_b G + 85)] h 86 z (some (.int 1)) (va_up h 86 cp_junk) 87 (z + 6) := by
  refine cp_CW.of rfl (Nat.le_of_ble_eq_true rfl) ?_
  refine vv_aload_n (pc := 0) d_L_declare_0 rfl ?_
  refine vv_iconst (pc := 1) (v := 0) d_L_declare_1 rfl ?_
  refine vv_aload_n (pc := 2) d_L_declare_2 rfl ?_
  refine vv_iload_n (pc := 3) d_L_declare_3 rfl ?_
  refine vv_catch (pc := 4) (As := [.int c]) (hh := [(0, 9, 12, 13), (0, 9, 15, 15)]) (hpc := 12) d_L_declare_4 (x_P_declare_2 (c := c) hc1 hc2 hc3 hc4 (d := d - 1) (by omega) H0) k_P_declare ml_L_7.1 ml_L_7.2.1 ml_L_7.2.2.1 ml_L_7.2.2.2.1 ml_L_7.2.2.2.2 (by decide) H0 (by omega) (Nat.le_of_ble_eq_true rfl) (List.mem_of_getElem? (i := 0) rfl) rfl cl_L_13 cl_L_15 rfl ?_
  refine vv_astore_n (pc := 12) d_L_declare_12 cp_isr_r (Nat.le_of_ble_eq_true rfl) ?_
  refine vv_iconst (pc := 13) (v := 1) d_L_declare_13 rfl ?_
  exact vv_iret (pc := 14) d_L_declare_14 rfl
theorem x_M_isLetter_2 {G : cp_G} {h : Nat → cp_E} {z d : Nat} {c : Int32} (hc1 : ¬ c < 65) (hc2 : 90 < c) (hc3 : ¬ c - 65 < 0) (hc4 : 26 ≤ c - 65) (hd : 0 ≤ d) : cp_C G d m_M_isLetter [.int c] h 87 z (some (.int 0)) h 87 (z + 0) := by
  refine cp_C.of rfl (Nat.le_of_ble_eq_true rfl) ?_
  refine vv_iload_n (pc := 0) d_M_isLetter_0 rfl ?_
  refine vv_bipush (pc := 1) (v := 65) d_M_isLetter_1 rfl ?_
  refine vv_icmp_lt (pc := 3) (tgt := 16) d_M_isLetter_3 rfl (fun hc => absurd hc hc1) (fun _ => ?_)
  refine vv_iload_n (pc := 6) d_M_isLetter_6 rfl ?_
  refine vv_bipush (pc := 7) (v := 90) d_M_isLetter_7 rfl ?_
  refine vv_icmp_gt (pc := 9) (tgt := 16) d_M_isLetter_9 rfl (fun _ => ?_) (fun hc => absurd hc2 hc)
  refine vv_iconst (pc := 16) (v := 0) d_M_isLetter_16 rfl ?_
  exact vv_zret (pc := 17) d_M_isLetter_17 rfl rfl
theorem x_M_mayName_2 {G : cp_G} {h : Nat → cp_E} {z d : Nat} {g26 : Nat → Value} {c : Int32} (hc1 : ¬ c < 65) (hc2 : 90 < c) (hc3 : ¬ c - 65 < 0) (hc4 : 26 ≤ c - 65) (hd : 1 ≤ d) (H26 : h 26 = .inr (11, g26)) : cp_C G d m_M_mayName [.ref (cp_b G + 26), .int c] h 87 z (some (.int 0)) (va_up h 26 (.inr (11, (va_up g26 0 (.int 1))))) 87 (z + 0) := by
  refine cp_C.of rfl (Nat.le_of_ble_eq_true rfl) ?_
  refine vv_aload_n (pc := 0) d_M_mayName_0 rfl ?_
  refine vv_iload_n (pc := 1) d_M_mayName_1 rfl ?_
  refine vv_callS (pc := 2) (As := [.int c]) d_M_mayName_2 (x_M_isLetter_2 (c := c) hc1 hc2 hc3 hc4 (d := d - 1) (by omega)) k_M_isLetter ml_M_215.1 ml_M_215.2 (by omega) (Nat.le_of_ble_eq_true rfl) ?_
  refine vv_if_ne (pc := 5) (tgt := 12) d_M_mayName_5 rfl (fun hc => absurd (by decide +kernel) hc) (fun _ => ?_)
  refine vv_iconst (pc := 8) (v := 1) d_M_mayName_8 rfl ?_
  refine vv_goto (pc := 9) (tgt := 29) d_M_mayName_9 rfl ?_
  refine vv_putf (pc := 29) d_M_mayName_29 fl_M_184 (by decide) H26 rfl rfl rfl ?_
  refine vv_aload_n (pc := 32) d_M_mayName_32 rfl ?_
  refine vv_getf (pc := 33) d_M_mayName_33 fl_M_184 (by decide) rfl rfl ?_
  refine vv_if_ne (pc := 36) (tgt := 43) d_M_mayName_36 rfl (fun _ => ?_) (fun hc => absurd hc (by decide +kernel))
  refine vv_iconst (pc := 43) (v := 0) d_M_mayName_43 rfl ?_
  exact vv_zret (pc := 44) d_M_mayName_44 rfl rfl
theorem x_M_declare_2 {G : cp_G} {h : Nat → cp_E} {z d : Nat} {g26 : Nat → Value} {c : Int32} (hc1 : ¬ c < 65) (hc2 : 90 < c) (hc3 : ¬ c - 65 < 0) (hc4 : 26 ≤ c - 65) (hd : 2 ≤ d) (H26 : h 26 = .inr (11, g26)) : cp_C G d m_M_declare [.ref (cp_b G + 26), .int c] h 87 z (some (.int 0)) (va_up h 26 (.inr (11, (va_up g26 0 (.int 1))))) 87 (z + 0) := by
  refine cp_C.of rfl (Nat.le_of_ble_eq_true rfl) ?_
  refine vv_aload_n (pc := 0) d_M_declare_0 rfl ?_
  refine vv_iload_n (pc := 1) d_M_declare_1 rfl ?_
  refine vv_callV (pc := 2) (As := [.int c]) d_M_declare_2 (x_M_mayName_2 (c := c) hc1 hc2 hc3 hc4 (d := d - 1) (by omega) H26) k_M_mayName ml_M_425.1 ml_M_425.2.1 ml_M_425.2.2.1 ml_M_425.2.2.2.1 ml_M_425.2.2.2.2 (by decide) H26 (by omega) (Nat.le_of_ble_eq_true rfl) ?_
  refine vv_if_ne (pc := 5) (tgt := 10) d_M_declare_5 rfl (fun hc => absurd (by decide +kernel) hc) (fun _ => ?_)
  refine vv_iconst (pc := 8) (v := 0) d_M_declare_8 rfl ?_
  exact vv_iret (pc := 9) d_M_declare_9 rfl
theorem x_M_thrown_3 {G : cp_G} {h : Nat → cp_E} {z d : Nat} {g26 : Nat → Value} {c : Int32} (hc1 : ¬ c < 65) (hc2 : 90 < c) (hc3 : ¬ c - 65 < 0) (hc4 : 26 ≤ c - 65) (hd : 0 ≤ d) (H26 : h 26 = .inr (11, g26)) (E26_0 : g26 0 = .int 1) : cp_C G d m_M_thrown [.ref (cp_b G + 26)] h 87 z (some (.int 1)) h 87 (z + 0) := by
  refine cp_C.of rfl (Nat.le_of_ble_eq_true rfl) ?_
  refine vv_aload_n (pc := 0) d_M_thrown_0 rfl ?_
  refine vv_getf (pc := 1) d_M_thrown_1 fl_M_184 (by decide) H26 E26_0 ?_
  exact vv_iret (pc := 4) d_M_thrown_4 rfl
theorem p_law_2_hi {G : cp_G} {h : Nat → cp_E} {z d bb : Nat} {xs : Nat → Int32} {g0 g26 : Nat → Value} {c : Int32} (hc1 : ¬ c < 65) (hc2 : 90 < c) (hc3 : ¬ c - 65 < 0) (hc4 : 26 ≤ c - 65) (hS : cp_scr G bb 2 xs) (hcx : ((xs 1).toUInt32 % 65536).toInt32 = c) (hd : 9 ≤ d) (H0 : h 0 = .inr (0, g0)) (H26 : h 26 = .inr (11, g26)) : cp_V G m_law d 0 0 (.inl (some (.int 1))) (va_up (va_up h 86 cp_junk) 26 (.inr (11, (va_up g26 0 (.int 1))))) 87 (z + 6) 144 [(4, .int 0), (3, .ref (cp_b G + 85)), (2, .ref (cp_b G + 26)), (1, .ref (cp_b G + 0)), (0, .ref bb)] [] h 86 z := by
  refine vv_aload_n (pc := 144) d_law_144 rfl ?_
  refine vv_aload_n (pc := 145) d_law_145 rfl ?_
  refine vv_iload (pc := 146) d_law_146 rfl ?_
  refine vv_iconst (pc := 148) (v := 1) d_law_148 rfl ?_
  refine vv_iadd (pc := 149) d_law_149 ?_
  refine vv_topi (y := 1) (by decide +kernel) ?_
  refine vv_sld (pc := 150) hS d_law_150 (by unfold vp_in; decide +kernel) ?_
  refine vv_topi (y := xs 1) (congrArg xs (by decide +kernel)) ?_
  refine vv_i2c (pc := 151) d_law_151 ?_
  refine vv_topi (y := c) hcx ?_
  refine vv_aload_n (pc := 152) d_law_152 rfl ?_
  refine vv_callSW (pc := 153) (As := [.ref (cp_b G + 0), .int c, .ref (cp_b G + 85)]) (hh := [(0, 9, 12, 13), (0, 9, 15, 15)]) d_law_153 (x_L_declare_2 (c := c) hc1 hc2 hc3 hc4 (d := d - 1) (by omega) H0) cw_L_declare ci_L_declare (by decide) ⟨by decide, by decide⟩ cn_L_declare ml_L_45.1 ml_L_45.2 (by omega) (Nat.le_of_ble_eq_true rfl) ?_
  refine vv_istore (pc := 156) d_law_156 (Nat.le_of_ble_eq_true rfl) ?_
  refine vv_aload_n (pc := 158) d_law_158 rfl ?_
  refine vv_aload_n (pc := 159) d_law_159 rfl ?_
  refine vv_iload (pc := 160) d_law_160 rfl ?_
  refine vv_iconst (pc := 162) (v := 1) d_law_162 rfl ?_
  refine vv_iadd (pc := 163) d_law_163 ?_
  refine vv_topi (y := 1) (by decide +kernel) ?_
  refine vv_sld (pc := 164) hS d_law_164 (by unfold vp_in; decide +kernel) ?_
  refine vv_topi (y := xs 1) (congrArg xs (by decide +kernel)) ?_
  refine vv_i2c (pc := 165) d_law_165 ?_
  refine vv_topi (y := c) hcx ?_
  refine vv_callV (pc := 166) (As := [.int c]) d_law_166 (x_M_declare_2 (c := c) hc1 hc2 hc3 hc4 (d := d - 1) (by omega) H26) k_M_declare ml_L_50.1 ml_L_50.2.1 ml_L_50.2.2.1 ml_L_50.2.2.2.1 ml_L_50.2.2.2.2 (by decide) H26 (by omega) (Nat.le_of_ble_eq_true rfl) ?_
  refine vv_istore (pc := 169) d_law_169 (Nat.le_of_ble_eq_true rfl) ?_
  refine vv_aload_n (pc := 171) d_law_171 rfl ?_
  refine vv_callV (pc := 172) (As := []) d_law_172 (x_M_thrown_3 (c := c) hc1 hc2 hc3 hc4 (d := d - 1) (by omega) rfl rfl) k_M_thrown ml_L_51.1 ml_L_51.2.1 ml_L_51.2.2.1 ml_L_51.2.2.2.1 ml_L_51.2.2.2.2 (by decide) rfl (by omega) (Nat.le_of_ble_eq_true rfl) ?_
  refine vv_iload (pc := 175) d_law_175 rfl ?_
  refine vv_icmp_eq (pc := 177) (tgt := 182) d_law_177 rfl (fun _ => ?_) (fun hc => absurd (by decide +kernel) hc)
  refine vv_iload (pc := 182) d_law_182 rfl ?_
  refine vv_if_ne (pc := 184) (tgt := 199) d_law_184 rfl (fun _ => ?_) (fun hc => absurd hc (by decide +kernel))
  refine vv_goto (pc := 199) (tgt := 518) d_law_199 rfl ?_
  refine vv_iinc (pc := 518) (v := 2) d_law_518 rfl (by decide +kernel) (Nat.le_of_ble_eq_true rfl) ?_
  refine vv_goto (pc := 521) (tgt := 23) d_law_521 rfl ?_
  refine vv_iload (pc := 23) d_law_23 rfl ?_
  refine vv_aload_n (pc := 25) d_law_25 rfl ?_
  refine vv_slen (pc := 26) hS d_law_26 ?_
  refine vv_topi (y := 2) (by decide +kernel) ?_
  refine vv_iconst (pc := 27) (v := 2) d_law_27 rfl ?_
  refine vv_isub (pc := 28) d_law_28 ?_
  refine vv_topi (y := 0) (by decide +kernel) ?_
  refine vv_icmp_gt (pc := 29) (tgt := 524) d_law_29 rfl (fun _ => ?_) (fun hc => absurd (by decide +kernel) hc)
  refine vv_iconst (pc := 524) (v := 1) d_law_524 rfl ?_
  exact vv_zret (pc := 525) d_law_525 rfl rfl
theorem x_P_isLetter_4 {G : cp_G} {h : Nat → cp_E} {z d : Nat} {c : Int32} (hc1 : ¬ c < 65) (hc2 : ¬ 90 < c) (hc3 : ¬ c - 65 < 0) (hc4 : ¬ 26 ≤ c - 65) (hc5 : vp_in (c - 65) 26) (hd : 0 ≤ d) : cp_C G d m_P_isLetter [.int c] h 86 z (some (.int 1)) h 86 (z + 0) := by
  refine cp_C.of rfl (Nat.le_of_ble_eq_true rfl) ?_
  refine vv_iload_n (pc := 0) d_P_isLetter_0 rfl ?_
  refine vv_bipush (pc := 1) (v := 65) d_P_isLetter_1 rfl ?_
  refine vv_icmp_lt (pc := 3) (tgt := 16) d_P_isLetter_3 rfl (fun hc => absurd hc hc1) (fun _ => ?_)
  refine vv_iload_n (pc := 6) d_P_isLetter_6 rfl ?_
  refine vv_bipush (pc := 7) (v := 90) d_P_isLetter_7 rfl ?_
  refine vv_icmp_gt (pc := 9) (tgt := 16) d_P_isLetter_9 rfl (fun hc => absurd hc hc2) (fun _ => ?_)
  refine vv_iconst (pc := 12) (v := 1) d_P_isLetter_12 rfl ?_
  refine vv_goto (pc := 13) (tgt := 17) d_P_isLetter_13 rfl ?_
  exact vv_zret (pc := 17) d_P_isLetter_17 rfl rfl
theorem x_D_find {G : cp_G} {h : Nat → cp_E} {z d : Nat} {g3 : Nat → Value} {c : Int32} (hc1 : ¬ c < 65) (hc2 : ¬ 90 < c) (hc3 : ¬ c - 65 < 0) (hc4 : ¬ 26 ≤ c - 65) (hc5 : vp_in (c - 65) 26) (hd : 0 ≤ d) (H3 : h 3 = .inr (1, g3)) (E3_0 : g3 0 = .ref (cp_b G + 4)) (H4 : h 4 = .inl (cp_cE G, 26, .inr (.inr (.inr (.inr (fun _ => none)))))) : cp_C G d m_D_find [.ref (cp_b G + 3), .int c] h 86 z (some (.null)) h 86 (z + 0) := by
  refine cp_C.of rfl (Nat.le_of_ble_eq_true rfl) ?_
  refine vv_iload_n (pc := 0) d_D_find_0 rfl ?_
  refine vv_bipush (pc := 1) (v := 65) d_D_find_1 rfl ?_
  refine vv_isub (pc := 3) d_D_find_3 ?_
  refine vv_istore_n (pc := 4) d_D_find_4 (Nat.le_of_ble_eq_true rfl) ?_
  refine vv_iload_n (pc := 5) d_D_find_5 rfl ?_
  refine vv_if_lt (pc := 6) (tgt := 24) d_D_find_6 rfl (fun hc => absurd hc hc3) (fun _ => ?_)
  refine vv_iload_n (pc := 9) d_D_find_9 rfl ?_
  refine vv_bipush (pc := 10) (v := 26) d_D_find_10 rfl ?_
  refine vv_icmp_ge (pc := 12) (tgt := 24) d_D_find_12 rfl (fun hc => absurd hc hc4) (fun _ => ?_)
  refine vv_aload_n (pc := 15) d_D_find_15 rfl ?_
  refine vv_getf (pc := 16) d_D_find_16 fl_D_11 (by decide) H3 E3_0 ?_
  refine vv_iload_n (pc := 19) d_D_find_19 rfl ?_
  refine vv_aald (pc := 20) d_D_find_20 (by decide) H4 hc5 ?_
  refine vv_topv (y := .null) rfl ?_
  refine vv_goto (pc := 21) (tgt := 25) d_D_find_21 rfl ?_
  exact vv_aret (pc := 25) d_D_find_25 rfl (Or.inl ⟨_, rfl⟩) cp_isr_n
theorem x_P_refuseUnlessFree_3 {G : cp_G} {h : Nat → cp_E} {z d : Nat} {g0 g3 : Nat → Value} {c : Int32} (hc1 : ¬ c < 65) (hc2 : ¬ 90 < c) (hc3 : ¬ c - 65 < 0) (hc4 : ¬ 26 ≤ c - 65) (hc5 : vp_in (c - 65) 26) (hd : 1 ≤ d) (H0 : h 0 = .inr (0, g0)) (E0_4 : g0 4 = .ref (cp_b G + 3)) (H3 : h 3 = .inr (1, g3)) (E3_0 : g3 0 = .ref (cp_b G + 4)) (H4 : h 4 = .inl (cp_cE G, 26, .inr (.inr (.inr (.inr (fun _ => none)))))) : cp_C G d m_P_refuseUnlessFree [.ref (cp_b G + 0), .int c] h 86 z none h 86 (z + 0) := by
  refine cp_C.of rfl (Nat.le_of_ble_eq_true rfl) ?_
  refine vv_iload_n (pc := 0) d_P_refuseUnlessFree_0 rfl ?_
  refine vv_callS (pc := 1) (As := [.int c]) d_P_refuseUnlessFree_1 (x_P_isLetter_4 (c := c) hc1 hc2 hc3 hc4 hc5 (d := d - 1) (by omega)) k_P_isLetter ml_P_200.1 ml_P_200.2 (by omega) (Nat.le_of_ble_eq_true rfl) ?_
  refine vv_if_ne (pc := 4) (tgt := 17) d_P_refuseUnlessFree_4 rfl (fun _ => ?_) (fun hc => absurd hc (by decide +kernel))
  refine vv_aload_n (pc := 17) d_P_refuseUnlessFree_17 rfl ?_
  refine vv_getf (pc := 18) d_P_refuseUnlessFree_18 fl_P_26 (by decide) H0 E0_4 ?_
  refine vv_iload_n (pc := 21) d_P_refuseUnlessFree_21 rfl ?_
  refine vv_callV (pc := 22) (As := [.int c]) d_P_refuseUnlessFree_22 (x_D_find (c := c) hc1 hc2 hc3 hc4 hc5 (d := d - 1) (by omega) H3 E3_0 H4) k_D_find ml_P_169.1 ml_P_169.2.1 ml_P_169.2.2.1 ml_P_169.2.2.2.1 ml_P_169.2.2.2.2 (by decide) H3 (by omega) (Nat.le_of_ble_eq_true rfl) ?_
  refine vv_ifnullN (pc := 25) (tgt := 38) d_P_refuseUnlessFree_25 rfl ?_
  exact vv_vret (pc := 38) d_P_refuseUnlessFree_38 rfl
theorem x_Q_open_2 {G : cp_G} {h : Nat → cp_E} {z d : Nat} {g21 : Nat → Value} {f1 : Nat → Int32} {c : Int32} (hc1 : ¬ c < 65) (hc2 : ¬ 90 < c) (hc3 : ¬ c - 65 < 0) (hc4 : ¬ 26 ≤ c - 65) (hc5 : vp_in (c - 65) 26) (hd : 1 ≤ d) (H21 : h 21 = .inr (5, g21)) (H1 : h 1 = .inl (cp_cC G, 80, .inl f1)) : cp_C G d m_Q_open [.ref (cp_b G + 21), .ref (cp_b G + 1), .int 0] h 86 z none (va_up (va_up (va_up h 21 (.inr (5, (va_up g21 0 (.ref (cp_b G + 1)))))) 21 (.inr (5, (va_up (va_up g21 0 (.ref (cp_b G + 1))) 1 (.int 0))))) 21 (.inr (5, (va_up (va_up (va_up g21 0 (.ref (cp_b G + 1))) 1 (.int 0)) 2 (.int 0))))) 86 (z + 0) := by
  refine cp_C.of rfl (Nat.le_of_ble_eq_true rfl) ?_
  refine vv_aload_n (pc := 0) d_Q_open_0 rfl ?_
  refine vv_aload_n (pc := 1) d_Q_open_1 rfl ?_
  refine vv_putf (pc := 2) d_Q_open_2 fl_Q_9 (by decide) H21 rfl rfl rfl ?_
  refine vv_aload_n (pc := 5) d_Q_open_5 rfl ?_
  refine vv_iload_n (pc := 6) d_Q_open_6 rfl ?_
  refine vv_aload_n (pc := 7) d_Q_open_7 rfl ?_
  refine vv_alenC (pc := 8) (v := 80) d_Q_open_8 (by decide) H1 rfl ?_
  refine vv_mmin (pc := 9) d_Q_open_9 ml_Q_22.1 (by omega) (Nat.le_of_ble_eq_true rfl) ?_
  refine vv_putf (pc := 12) d_Q_open_12 fl_Q_15 (by decide) rfl rfl rfl rfl ?_
  refine vv_aload_n (pc := 15) d_Q_open_15 rfl ?_
  refine vv_iconst (pc := 16) (v := 0) d_Q_open_16 rfl ?_
  refine vv_putf (pc := 17) d_Q_open_17 fl_Q_19 (by decide) rfl rfl rfl rfl ?_
  exact vv_vret (pc := 20) d_Q_open_20 rfl
theorem x_R_cut_5 {G : cp_G} {h : Nat → cp_E} {z d : Nat} {g7 : Nat → Value} {c : Int32} (hc1 : ¬ c < 65) (hc2 : ¬ 90 < c) (hc3 : ¬ c - 65 < 0) (hc4 : ¬ 26 ≤ c - 65) (hc5 : vp_in (c - 65) 26) (hd : 0 ≤ d) (H7 : h 7 = .inr (3, g7)) (E7_1 : g7 1 = .int 0) : cp_C G d m_R_cut [.ref (cp_b G + 7), .int 0] h 86 z none h 86 (z + 0) := by
  refine cp_C.of rfl (Nat.le_of_ble_eq_true rfl) ?_
  refine vv_iload_n (pc := 0) d_R_cut_0 rfl ?_
  refine vv_if_lt (pc := 1) (tgt := 17) d_R_cut_1 rfl (fun hc => absurd hc (by decide +kernel)) (fun _ => ?_)
  refine vv_iload_n (pc := 4) d_R_cut_4 rfl ?_
  refine vv_aload_n (pc := 5) d_R_cut_5 rfl ?_
  refine vv_getf (pc := 6) d_R_cut_6 fl_R_21 (by decide) H7 E7_1 ?_
  refine vv_icmp_ge (pc := 9) (tgt := 17) d_R_cut_9 rfl (fun _ => ?_) (fun hc => absurd (by decide +kernel) hc)
  exact vv_vret (pc := 17) d_R_cut_17 rfl
theorem x_V_clear_2 {G : cp_G} {h : Nat → cp_E} {z d : Nat} {g6 g7 : Nat → Value} {c : Int32} (hc1 : ¬ c < 65) (hc2 : ¬ 90 < c) (hc3 : ¬ c - 65 < 0) (hc4 : ¬ 26 ≤ c - 65) (hc5 : vp_in (c - 65) 26) (hd : 1 ≤ d) (H6 : h 6 = .inr (2, g6)) (E6_0 : g6 0 = .ref (cp_b G + 7)) (H7 : h 7 = .inr (3, g7)) (E7_1 : g7 1 = .int 0) : cp_C G d m_V_clear [.ref (cp_b G + 6)] h 86 z none h 86 (z + 0) := by
  refine cp_C.of rfl (Nat.le_of_ble_eq_true rfl) ?_
  refine vv_aload_n (pc := 0) d_V_clear_0 rfl ?_
  refine vv_getf (pc := 1) d_V_clear_1 fl_V_14 (by decide) H6 E6_0 ?_
  refine vv_iconst (pc := 4) (v := 0) d_V_clear_4 rfl ?_
  refine vv_callV (pc := 5) (As := [.int 0]) d_V_clear_5 (x_R_cut_5 (c := c) hc1 hc2 hc3 hc4 hc5 (d := d - 1) (by omega) H7 E7_1) k_R_cut ml_V_34.1 ml_V_34.2.1 ml_V_34.2.2.1 ml_V_34.2.2.2.1 ml_V_34.2.2.2.2 (by decide) H7 (by omega) (Nat.le_of_ble_eq_true rfl) ?_
  exact vv_vret (pc := 8) d_V_clear_8 rfl
theorem x_R_cut_6 {G : cp_G} {h : Nat → cp_E} {z d : Nat} {g15 : Nat → Value} {c : Int32} (hc1 : ¬ c < 65) (hc2 : ¬ 90 < c) (hc3 : ¬ c - 65 < 0) (hc4 : ¬ 26 ≤ c - 65) (hc5 : vp_in (c - 65) 26) (hd : 0 ≤ d) (H15 : h 15 = .inr (3, g15)) (E15_1 : g15 1 = .int 0) : cp_C G d m_R_cut [.ref (cp_b G + 15), .int 0] h 86 z none h 86 (z + 0) := by
  refine cp_C.of rfl (Nat.le_of_ble_eq_true rfl) ?_
  refine vv_iload_n (pc := 0) d_R_cut_0 rfl ?_
  refine vv_if_lt (pc := 1) (tgt := 17) d_R_cut_1 rfl (fun hc => absurd hc (by decide +kernel)) (fun _ => ?_)
  refine vv_iload_n (pc := 4) d_R_cut_4 rfl ?_
  refine vv_aload_n (pc := 5) d_R_cut_5 rfl ?_
  refine vv_getf (pc := 6) d_R_cut_6 fl_R_21 (by decide) H15 E15_1 ?_
  refine vv_icmp_ge (pc := 9) (tgt := 17) d_R_cut_9 rfl (fun _ => ?_) (fun hc => absurd (by decide +kernel) hc)
  exact vv_vret (pc := 17) d_R_cut_17 rfl
theorem x_R_cut_7 {G : cp_G} {h : Nat → cp_E} {z d : Nat} {g17 : Nat → Value} {c : Int32} (hc1 : ¬ c < 65) (hc2 : ¬ 90 < c) (hc3 : ¬ c - 65 < 0) (hc4 : ¬ 26 ≤ c - 65) (hc5 : vp_in (c - 65) 26) (hd : 0 ≤ d) (H17 : h 17 = .inr (3, g17)) (E17_1 : g17 1 = .int 0) : cp_C G d m_R_cut [.ref (cp_b G + 17), .int 0] h 86 z none h 86 (z + 0) := by
  refine cp_C.of rfl (Nat.le_of_ble_eq_true rfl) ?_
  refine vv_iload_n (pc := 0) d_R_cut_0 rfl ?_
  refine vv_if_lt (pc := 1) (tgt := 17) d_R_cut_1 rfl (fun hc => absurd hc (by decide +kernel)) (fun _ => ?_)
  refine vv_iload_n (pc := 4) d_R_cut_4 rfl ?_
  refine vv_aload_n (pc := 5) d_R_cut_5 rfl ?_
  refine vv_getf (pc := 6) d_R_cut_6 fl_R_21 (by decide) H17 E17_1 ?_
  refine vv_icmp_ge (pc := 9) (tgt := 17) d_R_cut_9 rfl (fun _ => ?_) (fun hc => absurd (by decide +kernel) hc)
  exact vv_vret (pc := 17) d_R_cut_17 rfl
theorem x_R_cut_8 {G : cp_G} {h : Nat → cp_E} {z d : Nat} {g19 : Nat → Value} {c : Int32} (hc1 : ¬ c < 65) (hc2 : ¬ 90 < c) (hc3 : ¬ c - 65 < 0) (hc4 : ¬ 26 ≤ c - 65) (hc5 : vp_in (c - 65) 26) (hd : 0 ≤ d) (H19 : h 19 = .inr (3, g19)) (E19_1 : g19 1 = .int 0) : cp_C G d m_R_cut [.ref (cp_b G + 19), .int 0] h 86 z none h 86 (z + 0) := by
  refine cp_C.of rfl (Nat.le_of_ble_eq_true rfl) ?_
  refine vv_iload_n (pc := 0) d_R_cut_0 rfl ?_
  refine vv_if_lt (pc := 1) (tgt := 17) d_R_cut_1 rfl (fun hc => absurd hc (by decide +kernel)) (fun _ => ?_)
  refine vv_iload_n (pc := 4) d_R_cut_4 rfl ?_
  refine vv_aload_n (pc := 5) d_R_cut_5 rfl ?_
  refine vv_getf (pc := 6) d_R_cut_6 fl_R_21 (by decide) H19 E19_1 ?_
  refine vv_icmp_ge (pc := 9) (tgt := 17) d_R_cut_9 rfl (fun _ => ?_) (fun hc => absurd (by decide +kernel) hc)
  exact vv_vret (pc := 17) d_R_cut_17 rfl
theorem x_B_cut_2 {G : cp_G} {h : Nat → cp_E} {z d : Nat} {g14 g15 g17 g19 : Nat → Value} {c : Int32} (hc1 : ¬ c < 65) (hc2 : ¬ 90 < c) (hc3 : ¬ c - 65 < 0) (hc4 : ¬ 26 ≤ c - 65) (hc5 : vp_in (c - 65) 26) (hd : 1 ≤ d) (H14 : h 14 = .inr (4, g14)) (E14_0 : g14 0 = .ref (cp_b G + 15)) (H15 : h 15 = .inr (3, g15)) (E15_1 : g15 1 = .int 0) (E14_1 : g14 1 = .ref (cp_b G + 17)) (H17 : h 17 = .inr (3, g17)) (E17_1 : g17 1 = .int 0) (E14_2 : g14 2 = .ref (cp_b G + 19)) (H19 : h 19 = .inr (3, g19)) (E19_1 : g19 1 = .int 0) : cp_C G d m_B_cut [.ref (cp_b G + 14), .int 0] h 86 z none h 86 (z + 0) := by
  refine cp_C.of rfl (Nat.le_of_ble_eq_true rfl) ?_
  refine vv_aload_n (pc := 0) d_B_cut_0 rfl ?_
  refine vv_getf (pc := 1) d_B_cut_1 fl_B_14 (by decide) H14 E14_0 ?_
  refine vv_iload_n (pc := 4) d_B_cut_4 rfl ?_
  refine vv_callV (pc := 5) (As := [.int 0]) d_B_cut_5 (x_R_cut_6 (c := c) hc1 hc2 hc3 hc4 hc5 (d := d - 1) (by omega) H15 E15_1) k_R_cut ml_B_40.1 ml_B_40.2.1 ml_B_40.2.2.1 ml_B_40.2.2.2.1 ml_B_40.2.2.2.2 (by decide) H15 (by omega) (Nat.le_of_ble_eq_true rfl) ?_
  refine vv_aload_n (pc := 8) d_B_cut_8 rfl ?_
  refine vv_getf (pc := 9) d_B_cut_9 fl_B_20 (by decide) H14 E14_1 ?_
  refine vv_iload_n (pc := 12) d_B_cut_12 rfl ?_
  refine vv_callV (pc := 13) (As := [.int 0]) d_B_cut_13 (x_R_cut_7 (c := c) hc1 hc2 hc3 hc4 hc5 (d := d - 1) (by omega) H17 E17_1) k_R_cut ml_B_40.1 ml_B_40.2.1 ml_B_40.2.2.1 ml_B_40.2.2.2.1 ml_B_40.2.2.2.2 (by decide) H17 (by omega) (Nat.le_of_ble_eq_true rfl) ?_
  refine vv_aload_n (pc := 16) d_B_cut_16 rfl ?_
  refine vv_getf (pc := 17) d_B_cut_17 fl_B_23 (by decide) H14 E14_2 ?_
  refine vv_iload_n (pc := 20) d_B_cut_20 rfl ?_
  refine vv_callV (pc := 21) (As := [.int 0]) d_B_cut_21 (x_R_cut_8 (c := c) hc1 hc2 hc3 hc4 hc5 (d := d - 1) (by omega) H19 E19_1) k_R_cut ml_B_40.1 ml_B_40.2.1 ml_B_40.2.2.1 ml_B_40.2.2.2.1 ml_B_40.2.2.2.2 (by decide) H19 (by omega) (Nat.le_of_ble_eq_true rfl) ?_
  exact vv_vret (pc := 24) d_B_cut_24 rfl
theorem x_P_openText_2 {G : cp_G} {h : Nat → cp_E} {z d : Nat} {g0 g21 g6 g7 g14 g15 g17 g19 : Nat → Value} {f1 : Nat → Int32} {c : Int32} (hc1 : ¬ c < 65) (hc2 : ¬ 90 < c) (hc3 : ¬ c - 65 < 0) (hc4 : ¬ 26 ≤ c - 65) (hc5 : vp_in (c - 65) 26) (hd : 2 ≤ d) (H0 : h 0 = .inr (0, g0)) (E0_7 : g0 7 = .ref (cp_b G + 21)) (E0_0 : g0 0 = .ref (cp_b G + 1)) (E0_1 : g0 1 = .int 0) (H21 : h 21 = .inr (5, g21)) (H1 : h 1 = .inl (cp_cC G, 80, .inl f1)) (E0_5 : g0 5 = .ref (cp_b G + 6)) (H6 : h 6 = .inr (2, g6)) (E6_0 : g6 0 = .ref (cp_b G + 7)) (H7 : h 7 = .inr (3, g7)) (E7_1 : g7 1 = .int 0) (E0_6 : g0 6 = .ref (cp_b G + 14)) (H14 : h 14 = .inr (4, g14)) (E14_0 : g14 0 = .ref (cp_b G + 15)) (H15 : h 15 = .inr (3, g15)) (E15_1 : g15 1 = .int 0) (E14_1 : g14 1 = .ref (cp_b G + 17)) (H17 : h 17 = .inr (3, g17)) (E17_1 : g17 1 = .int 0) (E14_2 : g14 2 = .ref (cp_b G + 19)) (H19 : h 19 = .inr (3, g19)) (E19_1 : g19 1 = .int 0) : cp_C G d m_P_openText [.ref (cp_b G + 0)] h 86 z none (va_up (va_up (va_up (va_up h 21 (.inr (5, (va_up g21 0 (.ref (cp_b G + 1)))))) 21 (.inr (5, (va_up (va_up g21 0 (.ref (cp_b G + 1))) 1 (.int 0))))) 21 (.inr (5, (va_up (va_up (va_up g21 0 (.ref (cp_b G + 1))) 1 (.int 0)) 2 (.int 0))))) 0 (.inr (0, (va_up g0 1 (.int 0))))) 86 (z + 0) := by
  refine cp_C.of rfl (Nat.le_of_ble_eq_true rfl) ?_
  refine vv_aload_n (pc := 0) d_P_openText_0 rfl ?_
  refine vv_getf (pc := 1) d_P_openText_1 fl_P_47 (by decide) H0 E0_7 ?_
  refine vv_aload_n (pc := 4) d_P_openText_4 rfl ?_
  refine vv_getf (pc := 5) d_P_openText_5 fl_P_9 (by decide) H0 E0_0 ?_
  refine vv_aload_n (pc := 8) d_P_openText_8 rfl ?_
  refine vv_getf (pc := 9) d_P_openText_9 fl_P_13 (by decide) H0 E0_1 ?_
  refine vv_callV (pc := 12) (As := [.ref (cp_b G + 1), .int 0]) d_P_openText_12 (x_Q_open_2 (c := c) hc1 hc2 hc3 hc4 hc5 (d := d - 1) (by omega) H21 H1) k_Q_open ml_P_208.1 ml_P_208.2.1 ml_P_208.2.2.1 ml_P_208.2.2.2.1 ml_P_208.2.2.2.2 (by decide) H21 (by omega) (Nat.le_of_ble_eq_true rfl) ?_
  refine vv_aload_n (pc := 15) d_P_openText_15 rfl ?_
  refine vv_iconst (pc := 16) (v := 0) d_P_openText_16 rfl ?_
  refine vv_putf (pc := 17) d_P_openText_17 fl_P_13 (by decide) H0 rfl rfl rfl ?_
  refine vv_aload_n (pc := 20) d_P_openText_20 rfl ?_
  refine vv_getf (pc := 21) d_P_openText_21 fl_P_33 (by decide) rfl E0_5 ?_
  refine vv_callV (pc := 24) (As := []) d_P_openText_24 (x_V_clear_2 (c := c) hc1 hc2 hc3 hc4 hc5 (d := d - 1) (by omega) H6 E6_0 H7 E7_1) k_V_clear ml_P_212.1 ml_P_212.2.1 ml_P_212.2.2.1 ml_P_212.2.2.2.1 ml_P_212.2.2.2.2 (by decide) H6 (by omega) (Nat.le_of_ble_eq_true rfl) ?_
  refine vv_aload_n (pc := 27) d_P_openText_27 rfl ?_
  refine vv_getf (pc := 28) d_P_openText_28 fl_P_40 (by decide) rfl E0_6 ?_
  refine vv_iconst (pc := 31) (v := 0) d_P_openText_31 rfl ?_
  refine vv_callV (pc := 32) (As := [.int 0]) d_P_openText_32 (x_B_cut_2 (c := c) hc1 hc2 hc3 hc4 hc5 (d := d - 1) (by omega) H14 E14_0 H15 E15_1 E14_1 H17 E17_1 E14_2 H19 E19_1) k_B_cut ml_P_215.1 ml_P_215.2.1 ml_P_215.2.2.1 ml_P_215.2.2.2.1 ml_P_215.2.2.2.2 (by decide) H14 (by omega) (Nat.le_of_ble_eq_true rfl) ?_
  exact vv_vret (pc := 35) d_P_openText_35 rfl
theorem x_N_init {G : cp_G} {h : Nat → cp_E} {z d : Nat} {g86 : Nat → Value} {c : Int32} (hc1 : ¬ c < 65) (hc2 : ¬ 90 < c) (hc3 : ¬ c - 65 < 0) (hc4 : ¬ 26 ≤ c - 65) (hc5 : vp_in (c - 65) 26) (hd : 1 ≤ d) (H86 : h 86 = .inr (9, g86)) : cp_C G d m_N_init [.ref (cp_b G + 86), .int 17, .int 0, .int 0] h 87 z none (va_up (va_up (va_up (va_up (va_up (va_up (va_up h 86 (.inr (9, (va_up g86 0 (.int 17))))) 86 (.inr (9, (va_up (va_up g86 0 (.int 17)) 1 (.int 0))))) 86 (.inr (9, (va_up (va_up (va_up g86 0 (.int 17)) 1 (.int 0)) 2 (.int 0))))) 86 (.inr (9, (va_up (va_up (va_up (va_up g86 0 (.int 17)) 1 (.int 0)) 2 (.int 0)) 3 (.int 0))))) 86 (.inr (9, (va_up (va_up (va_up (va_up (va_up g86 0 (.int 17)) 1 (.int 0)) 2 (.int 0)) 3 (.int 0)) 4 (.null))))) 86 (.inr (9, (va_up (va_up (va_up (va_up (va_up (va_up g86 0 (.int 17)) 1 (.int 0)) 2 (.int 0)) 3 (.int 0)) 4 (.null)) 5 (.null))))) 86 (.inr (9, (va_up (va_up (va_up (va_up (va_up (va_up (va_up g86 0 (.int 17)) 1 (.int 0)) 2 (.int 0)) 3 (.int 0)) 4 (.null)) 5 (.null)) 6 (.null))))) 87 (z + 0) := by
  refine cp_C.of rfl (Nat.le_of_ble_eq_true rfl) ?_
  refine vv_aload_n (pc := 0) d_N_init_0 rfl ?_
  refine vv_obj (pc := 1) d_N_init_1 ol_N_1 cp_oi cp_oc (by omega) (Nat.le_of_ble_eq_true rfl) ?_
  refine vv_aload_n (pc := 4) d_N_init_4 rfl ?_
  refine vv_iload_n (pc := 5) d_N_init_5 rfl ?_
  refine vv_putF (pc := 6) d_N_init_6 fl_N_7 (by decide) H86 rfl rfl rfl rfl rfl ?_
  refine vv_aload_n (pc := 9) d_N_init_9 rfl ?_
  refine vv_iload_n (pc := 10) d_N_init_10 rfl ?_
  refine vv_putF (pc := 11) d_N_init_11 fl_N_13 (by decide) rfl rfl rfl rfl rfl rfl ?_
  refine vv_aload_n (pc := 14) d_N_init_14 rfl ?_
  refine vv_iload_n (pc := 15) d_N_init_15 rfl ?_
  refine vv_putF (pc := 16) d_N_init_16 fl_N_16 (by decide) rfl rfl rfl rfl rfl rfl ?_
  refine vv_aload_n (pc := 19) d_N_init_19 rfl ?_
  refine vv_iconst (pc := 20) (v := 0) d_N_init_20 rfl ?_
  refine vv_putf (pc := 21) d_N_init_21 fl_N_19 (by decide) rfl rfl rfl rfl ?_
  refine vv_aload_n (pc := 24) d_N_init_24 rfl ?_
  refine vv_null (pc := 25) d_N_init_25 ?_
  refine vv_putf (pc := 26) d_N_init_26 fl_N_22 (by decide) rfl rfl rfl rfl ?_
  refine vv_aload_n (pc := 29) d_N_init_29 rfl ?_
  refine vv_null (pc := 30) d_N_init_30 ?_
  refine vv_putf (pc := 31) d_N_init_31 fl_N_26 (by decide) rfl rfl rfl rfl ?_
  refine vv_aload_n (pc := 34) d_N_init_34 rfl ?_
  refine vv_null (pc := 35) d_N_init_35 ?_
  refine vv_putf (pc := 36) d_N_init_36 fl_N_29 (by decide) rfl rfl rfl rfl ?_
  exact vv_vret (pc := 39) d_N_init_39 rfl
theorem x_Q_peek_2 {G : cp_G} {h : Nat → cp_E} {z d : Nat} {g21 : Nat → Value} {c : Int32} (hc1 : ¬ c < 65) (hc2 : ¬ 90 < c) (hc3 : ¬ c - 65 < 0) (hc4 : ¬ 26 ≤ c - 65) (hc5 : vp_in (c - 65) 26) (hd : 0 ≤ d) (H21 : h 21 = .inr (5, g21)) (E21_2 : g21 2 = .int 0) (E21_1 : g21 1 = .int 0) : cp_C G d m_Q_peek [.ref (cp_b G + 21)] h 87 z (some (.int 0)) h 87 (z + 0) := by
  refine cp_C.of rfl (Nat.le_of_ble_eq_true rfl) ?_
  refine vv_aload_n (pc := 0) d_Q_peek_0 rfl ?_
  refine vv_getf (pc := 1) d_Q_peek_1 fl_Q_19 (by decide) H21 E21_2 ?_
  refine vv_if_lt (pc := 4) (tgt := 30) d_Q_peek_4 rfl (fun hc => absurd hc (by decide +kernel)) (fun _ => ?_)
  refine vv_aload_n (pc := 7) d_Q_peek_7 rfl ?_
  refine vv_getf (pc := 8) d_Q_peek_8 fl_Q_19 (by decide) H21 E21_2 ?_
  refine vv_aload_n (pc := 11) d_Q_peek_11 rfl ?_
  refine vv_getf (pc := 12) d_Q_peek_12 fl_Q_15 (by decide) H21 E21_1 ?_
  refine vv_icmp_ge (pc := 15) (tgt := 30) d_Q_peek_15 rfl (fun _ => ?_) (fun hc => absurd (by decide +kernel) hc)
  refine vv_iconst (pc := 30) (v := 0) d_Q_peek_30 rfl ?_
  exact vv_zret (pc := 31) d_Q_peek_31 rfl rfl
theorem x_Q_take {G : cp_G} {h : Nat → cp_E} {z d : Nat} {g21 : Nat → Value} {c : Int32} (hc1 : ¬ c < 65) (hc2 : ¬ 90 < c) (hc3 : ¬ c - 65 < 0) (hc4 : ¬ 26 ≤ c - 65) (hc5 : vp_in (c - 65) 26) (hd : 1 ≤ d) (H21 : h 21 = .inr (5, g21)) (E21_2 : g21 2 = .int 0) (E21_1 : g21 1 = .int 0) : cp_C G d m_Q_take [.ref (cp_b G + 21), .int 62] h 87 z (some (.int 0)) h 87 (z + 0) := by
  refine cp_C.of rfl (Nat.le_of_ble_eq_true rfl) ?_
  refine vv_aload_n (pc := 0) d_Q_take_0 rfl ?_
  refine vv_callV (pc := 1) (As := []) d_Q_take_1 (x_Q_peek_2 (c := c) hc1 hc2 hc3 hc4 hc5 (d := d - 1) (by omega) H21 E21_2 E21_1) k_Q_peek ml_Q_53.1 ml_Q_53.2.1 ml_Q_53.2.2.1 ml_Q_53.2.2.2.1 ml_Q_53.2.2.2.2 (by decide) H21 (by omega) (Nat.le_of_ble_eq_true rfl) ?_
  refine vv_iload_n (pc := 4) d_Q_take_4 rfl ?_
  refine vv_icmp_ne (pc := 5) (tgt := 12) d_Q_take_5 rfl (fun _ => ?_) (fun hc => absurd hc (by decide +kernel))
  refine vv_iconst (pc := 12) (v := 0) d_Q_take_12 rfl ?_
  refine vv_istore_n (pc := 13) d_Q_take_13 (Nat.le_of_ble_eq_true rfl) ?_
  refine vv_iload_n (pc := 14) d_Q_take_14 rfl ?_
  refine vv_if_eq (pc := 15) (tgt := 28) d_Q_take_15 rfl (fun _ => ?_) (fun hc => absurd (by decide +kernel) hc)
  refine vv_iload_n (pc := 28) d_Q_take_28 rfl ?_
  exact vv_zret (pc := 29) d_Q_take_29 rfl rfl
theorem x_Q_peek_3 {G : cp_G} {h : Nat → cp_E} {z d : Nat} {g21 : Nat → Value} {c : Int32} (hc1 : ¬ c < 65) (hc2 : ¬ 90 < c) (hc3 : ¬ c - 65 < 0) (hc4 : ¬ 26 ≤ c - 65) (hc5 : vp_in (c - 65) 26) (hd : 0 ≤ d) (H21 : h 21 = .inr (5, g21)) (E21_2 : g21 2 = .int 0) (E21_1 : g21 1 = .int 0) : cp_C G d m_Q_peek [.ref (cp_b G + 21)] h 87 z (some (.int 0)) h 87 (z + 0) := by
  refine cp_C.of rfl (Nat.le_of_ble_eq_true rfl) ?_
  refine vv_aload_n (pc := 0) d_Q_peek_0 rfl ?_
  refine vv_getf (pc := 1) d_Q_peek_1 fl_Q_19 (by decide) H21 E21_2 ?_
  refine vv_if_lt (pc := 4) (tgt := 30) d_Q_peek_4 rfl (fun hc => absurd hc (by decide +kernel)) (fun _ => ?_)
  refine vv_aload_n (pc := 7) d_Q_peek_7 rfl ?_
  refine vv_getf (pc := 8) d_Q_peek_8 fl_Q_19 (by decide) H21 E21_2 ?_
  refine vv_aload_n (pc := 11) d_Q_peek_11 rfl ?_
  refine vv_getf (pc := 12) d_Q_peek_12 fl_Q_15 (by decide) H21 E21_1 ?_
  refine vv_icmp_ge (pc := 15) (tgt := 30) d_Q_peek_15 rfl (fun _ => ?_) (fun hc => absurd (by decide +kernel) hc)
  refine vv_iconst (pc := 30) (v := 0) d_Q_peek_30 rfl ?_
  exact vv_zret (pc := 31) d_Q_peek_31 rfl rfl
theorem x_P_isLetter_5 {G : cp_G} {h : Nat → cp_E} {z d : Nat} {c : Int32} (hc1 : ¬ c < 65) (hc2 : ¬ 90 < c) (hc3 : ¬ c - 65 < 0) (hc4 : ¬ 26 ≤ c - 65) (hc5 : vp_in (c - 65) 26) (hd : 0 ≤ d) : cp_C G d m_P_isLetter [.int 0] h 87 z (some (.int 0)) h 87 (z + 0) := by
  refine cp_C.of rfl (Nat.le_of_ble_eq_true rfl) ?_
  refine vv_iload_n (pc := 0) d_P_isLetter_0 rfl ?_
  refine vv_bipush (pc := 1) (v := 65) d_P_isLetter_1 rfl ?_
  refine vv_icmp_lt (pc := 3) (tgt := 16) d_P_isLetter_3 rfl (fun _ => ?_) (fun hc => absurd (by decide +kernel) hc)
  refine vv_iconst (pc := 16) (v := 0) d_P_isLetter_16 rfl ?_
  exact vv_zret (pc := 17) d_P_isLetter_17 rfl rfl
theorem x_P_isVariable_2 {G : cp_G} {h : Nat → cp_E} {z d : Nat} {c : Int32} (hc1 : ¬ c < 65) (hc2 : ¬ 90 < c) (hc3 : ¬ c - 65 < 0) (hc4 : ¬ 26 ≤ c - 65) (hc5 : vp_in (c - 65) 26) (hd : 0 ≤ d) : cp_C G d m_P_isVariable [.int 0] h 87 z (some (.int 0)) h 87 (z + 0) := by
  refine cp_C.of rfl (Nat.le_of_ble_eq_true rfl) ?_
  refine vv_iload_n (pc := 0) d_P_isVariable_0 rfl ?_
  refine vv_bipush (pc := 1) (v := 97) d_P_isVariable_1 rfl ?_
  refine vv_icmp_lt (pc := 3) (tgt := 16) d_P_isVariable_3 rfl (fun _ => ?_) (fun hc => absurd (by decide +kernel) hc)
  refine vv_iconst (pc := 16) (v := 0) d_P_isVariable_16 rfl ?_
  exact vv_zret (pc := 17) d_P_isVariable_17 rfl rfl
theorem x_Q_peek_4 {G : cp_G} {h : Nat → cp_E} {z d : Nat} {g21 : Nat → Value} {c : Int32} (hc1 : ¬ c < 65) (hc2 : ¬ 90 < c) (hc3 : ¬ c - 65 < 0) (hc4 : ¬ 26 ≤ c - 65) (hc5 : vp_in (c - 65) 26) (hd : 0 ≤ d) (H21 : h 21 = .inr (5, g21)) (E21_2 : g21 2 = .int 0) (E21_1 : g21 1 = .int 0) : cp_C G d m_Q_peek [.ref (cp_b G + 21)] h 87 z (some (.int 0)) h 87 (z + 0) := by
  refine cp_C.of rfl (Nat.le_of_ble_eq_true rfl) ?_
  refine vv_aload_n (pc := 0) d_Q_peek_0 rfl ?_
  refine vv_getf (pc := 1) d_Q_peek_1 fl_Q_19 (by decide) H21 E21_2 ?_
  refine vv_if_lt (pc := 4) (tgt := 30) d_Q_peek_4 rfl (fun hc => absurd hc (by decide +kernel)) (fun _ => ?_)
  refine vv_aload_n (pc := 7) d_Q_peek_7 rfl ?_
  refine vv_getf (pc := 8) d_Q_peek_8 fl_Q_19 (by decide) H21 E21_2 ?_
  refine vv_aload_n (pc := 11) d_Q_peek_11 rfl ?_
  refine vv_getf (pc := 12) d_Q_peek_12 fl_Q_15 (by decide) H21 E21_1 ?_
  refine vv_icmp_ge (pc := 15) (tgt := 30) d_Q_peek_15 rfl (fun _ => ?_) (fun hc => absurd (by decide +kernel) hc)
  refine vv_iconst (pc := 30) (v := 0) d_Q_peek_30 rfl ?_
  exact vv_zret (pc := 31) d_Q_peek_31 rfl rfl
theorem x_Q_take_2 {G : cp_G} {h : Nat → cp_E} {z d : Nat} {g21 : Nat → Value} {c : Int32} (hc1 : ¬ c < 65) (hc2 : ¬ 90 < c) (hc3 : ¬ c - 65 < 0) (hc4 : ¬ 26 ≤ c - 65) (hc5 : vp_in (c - 65) 26) (hd : 1 ≤ d) (H21 : h 21 = .inr (5, g21)) (E21_2 : g21 2 = .int 0) (E21_1 : g21 1 = .int 0) : cp_C G d m_Q_take [.ref (cp_b G + 21), .int 63] h 87 z (some (.int 0)) h 87 (z + 0) := by
  refine cp_C.of rfl (Nat.le_of_ble_eq_true rfl) ?_
  refine vv_aload_n (pc := 0) d_Q_take_0 rfl ?_
  refine vv_callV (pc := 1) (As := []) d_Q_take_1 (x_Q_peek_4 (c := c) hc1 hc2 hc3 hc4 hc5 (d := d - 1) (by omega) H21 E21_2 E21_1) k_Q_peek ml_Q_53.1 ml_Q_53.2.1 ml_Q_53.2.2.1 ml_Q_53.2.2.2.1 ml_Q_53.2.2.2.2 (by decide) H21 (by omega) (Nat.le_of_ble_eq_true rfl) ?_
  refine vv_iload_n (pc := 4) d_Q_take_4 rfl ?_
  refine vv_icmp_ne (pc := 5) (tgt := 12) d_Q_take_5 rfl (fun _ => ?_) (fun hc => absurd hc (by decide +kernel))
  refine vv_iconst (pc := 12) (v := 0) d_Q_take_12 rfl ?_
  refine vv_istore_n (pc := 13) d_Q_take_13 (Nat.le_of_ble_eq_true rfl) ?_
  refine vv_iload_n (pc := 14) d_Q_take_14 rfl ?_
  refine vv_if_eq (pc := 15) (tgt := 28) d_Q_take_15 rfl (fun _ => ?_) (fun hc => absurd (by decide +kernel) hc)
  refine vv_iload_n (pc := 28) d_Q_take_28 rfl ?_
  exact vv_zret (pc := 29) d_Q_take_29 rfl rfl
theorem x_Q_readPart {G : cp_G} {h : Nat → cp_E} {z d : Nat} {g21 : Nat → Value} {c : Int32} (hc1 : ¬ c < 65) (hc2 : ¬ 90 < c) (hc3 : ¬ c - 65 < 0) (hc4 : ¬ 26 ≤ c - 65) (hc5 : vp_in (c - 65) 26) (hd : 2 ≤ d) (H21 : h 21 = .inr (5, g21)) (E21_2 : g21 2 = .int 0) (E21_1 : g21 1 = .int 0) : cp_C G d m_Q_readPart [.ref (cp_b G + 21)] h 87 z (some (.null)) h 87 (z + 0) := by
  refine cp_C.of rfl (Nat.le_of_ble_eq_true rfl) ?_
  refine vv_aload_n (pc := 0) d_Q_readPart_0 rfl ?_
  refine vv_callV (pc := 1) (As := []) d_Q_readPart_1 (x_Q_peek_3 (c := c) hc1 hc2 hc3 hc4 hc5 (d := d - 1) (by omega) H21 E21_2 E21_1) k_Q_peek ml_Q_53.1 ml_Q_53.2.1 ml_Q_53.2.2.1 ml_Q_53.2.2.2.1 ml_Q_53.2.2.2.2 (by decide) H21 (by omega) (Nat.le_of_ble_eq_true rfl) ?_
  refine vv_istore_n (pc := 4) d_Q_readPart_4 (Nat.le_of_ble_eq_true rfl) ?_
  refine vv_iload_n (pc := 5) d_Q_readPart_5 rfl ?_
  refine vv_bipush (pc := 6) (v := 35) d_Q_readPart_6 rfl ?_
  refine vv_icmp_eq (pc := 8) (tgt := 18) d_Q_readPart_8 rfl (fun hc => absurd hc (by decide +kernel)) (fun _ => ?_)
  refine vv_iload_n (pc := 11) d_Q_readPart_11 rfl ?_
  refine vv_callSN (pc := 12) (As := [.int 0]) d_Q_readPart_12 (x_P_isLetter_5 (c := c) hc1 hc2 hc3 hc4 hc5 (d := d - 1) (by omega)) k_P_isLetter nl_Q_76 ks_P_isLetter (by omega) (Nat.le_of_ble_eq_true rfl) ?_
  refine vv_if_eq (pc := 15) (tgt := 39) d_Q_readPart_15 rfl (fun _ => ?_) (fun hc => absurd (by decide +kernel) hc)
  refine vv_iload_n (pc := 39) d_Q_readPart_39 rfl ?_
  refine vv_callSN (pc := 40) (As := [.int 0]) d_Q_readPart_40 (x_P_isVariable_2 (c := c) hc1 hc2 hc3 hc4 hc5 (d := d - 1) (by omega)) k_P_isVariable nl_Q_79 ks_P_isVariable (by omega) (Nat.le_of_ble_eq_true rfl) ?_
  refine vv_if_eq (pc := 43) (tgt := 75) d_Q_readPart_43 rfl (fun _ => ?_) (fun hc => absurd (by decide +kernel) hc)
  refine vv_aload_n (pc := 75) d_Q_readPart_75 rfl ?_
  refine vv_bipush (pc := 76) (v := 63) d_Q_readPart_76 rfl ?_
  refine vv_callV (pc := 78) (As := [.int 63]) d_Q_readPart_78 (x_Q_take_2 (c := c) hc1 hc2 hc3 hc4 hc5 (d := d - 1) (by omega) H21 E21_2 E21_1) k_Q_take ml_Q_68.1 ml_Q_68.2.1 ml_Q_68.2.2.1 ml_Q_68.2.2.2.1 ml_Q_68.2.2.2.2 (by decide) H21 (by omega) (Nat.le_of_ble_eq_true rfl) ?_
  refine vv_if_eq (pc := 81) (tgt := 94) d_Q_readPart_81 rfl (fun _ => ?_) (fun hc => absurd (by decide +kernel) hc)
  refine vv_null (pc := 94) d_Q_readPart_94 ?_
  exact vv_aret (pc := 95) d_Q_readPart_95 rfl (Or.inl ⟨_, rfl⟩) cp_isr_n
theorem x_Q_readParts {G : cp_G} {h : Nat → cp_E} {z d : Nat} {g21 : Nat → Value} {c : Int32} (hc1 : ¬ c < 65) (hc2 : ¬ 90 < c) (hc3 : ¬ c - 65 < 0) (hc4 : ¬ 26 ≤ c - 65) (hc5 : vp_in (c - 65) 26) (hd : 3 ≤ d) (H21 : h 21 = .inr (5, g21)) (E21_2 : g21 2 = .int 0) (E21_1 : g21 1 = .int 0) : cp_C G d m_Q_readParts [.ref (cp_b G + 21), .ref (cp_b G + 86)] h 87 z (some (.int 0)) h 87 (z + 0) := by
  refine cp_C.of rfl (Nat.le_of_ble_eq_true rfl) ?_
  refine vv_aload_n (pc := 0) d_Q_readParts_0 rfl ?_
  refine vv_bipush (pc := 1) (v := 62) d_Q_readParts_1 rfl ?_
  refine vv_callV (pc := 3) (As := [.int 62]) d_Q_readParts_3 (x_Q_take (c := c) hc1 hc2 hc3 hc4 hc5 (d := d - 1) (by omega) H21 E21_2 E21_1) k_Q_take ml_Q_68.1 ml_Q_68.2.1 ml_Q_68.2.2.1 ml_Q_68.2.2.2.1 ml_Q_68.2.2.2.2 (by decide) H21 (by omega) (Nat.le_of_ble_eq_true rfl) ?_
  refine vv_if_eq (pc := 6) (tgt := 11) d_Q_readParts_6 rfl (fun _ => ?_) (fun hc => absurd (by decide +kernel) hc)
  refine vv_iconst (pc := 11) (v := 1) d_Q_readParts_11 rfl ?_
  refine vv_istore_n (pc := 12) d_Q_readParts_12 (Nat.le_of_ble_eq_true rfl) ?_
  refine vv_iload_n (pc := 13) d_Q_readParts_13 rfl ?_
  refine vv_bipush (pc := 14) (v := 6) d_Q_readParts_14 rfl ?_
  refine vv_icmp_gt (pc := 16) (tgt := 69) d_Q_readParts_16 rfl (fun hc => absurd hc (by decide +kernel)) (fun _ => ?_)
  refine vv_aload_n (pc := 19) d_Q_readParts_19 rfl ?_
  refine vv_callV (pc := 20) (As := []) d_Q_readParts_20 (x_Q_readPart (c := c) hc1 hc2 hc3 hc4 hc5 (d := d - 1) (by omega) H21 E21_2 E21_1) k_Q_readPart ml_Q_72.1 ml_Q_72.2.1 ml_Q_72.2.2.1 ml_Q_72.2.2.2.1 ml_Q_72.2.2.2.2 (by decide) H21 (by omega) (Nat.le_of_ble_eq_true rfl) ?_
  refine vv_astore_n (pc := 23) d_Q_readParts_23 cp_isr_n (Nat.le_of_ble_eq_true rfl) ?_
  refine vv_aload_nN (pc := 24) d_Q_readParts_24 rfl ?_
  refine vv_ifnonnullN (pc := 25) d_Q_readParts_25 ?_
  refine vv_iconst (pc := 28) (v := 0) d_Q_readParts_28 rfl ?_
  exact vv_zret (pc := 29) d_Q_readParts_29 rfl rfl
theorem x_Q_readDeclaration {G : cp_G} {h : Nat → cp_E} {z d : Nat} {g21 : Nat → Value} {c : Int32} (hc1 : ¬ c < 65) (hc2 : ¬ 90 < c) (hc3 : ¬ c - 65 < 0) (hc4 : ¬ 26 ≤ c - 65) (hc5 : vp_in (c - 65) 26) (hd : 4 ≤ d) (H21 : h 21 = .inr (5, g21)) (E21_2 : g21 2 = .int 0) (E21_1 : g21 1 = .int 0) : cp_C G d m_Q_readDeclaration [.ref (cp_b G + 21)] h 86 z (some (.null)) (va_up (va_up (va_up (va_up (va_up (va_up (va_up (va_up h 86 (.inr (9, (fun k => defaultValue (cp_ty 9 k))))) 86 (.inr (9, (va_up (fun k => defaultValue (cp_ty 9 k)) 0 (.int 17))))) 86 (.inr (9, (va_up (va_up (fun k => defaultValue (cp_ty 9 k)) 0 (.int 17)) 1 (.int 0))))) 86 (.inr (9, (va_up (va_up (va_up (fun k => defaultValue (cp_ty 9 k)) 0 (.int 17)) 1 (.int 0)) 2 (.int 0))))) 86 (.inr (9, (va_up (va_up (va_up (va_up (fun k => defaultValue (cp_ty 9 k)) 0 (.int 17)) 1 (.int 0)) 2 (.int 0)) 3 (.int 0))))) 86 (.inr (9, (va_up (va_up (va_up (va_up (va_up (fun k => defaultValue (cp_ty 9 k)) 0 (.int 17)) 1 (.int 0)) 2 (.int 0)) 3 (.int 0)) 4 (.null))))) 86 (.inr (9, (va_up (va_up (va_up (va_up (va_up (va_up (fun k => defaultValue (cp_ty 9 k)) 0 (.int 17)) 1 (.int 0)) 2 (.int 0)) 3 (.int 0)) 4 (.null)) 5 (.null))))) 86 (.inr (9, (va_up (va_up (va_up (va_up (va_up (va_up (va_up (fun k => defaultValue (cp_ty 9 k)) 0 (.int 17)) 1 (.int 0)) 2 (.int 0)) 3 (.int 0)) 4 (.null)) 5 (.null)) 6 (.null))))) 87 (z + 7) := by
  refine cp_C.of rfl (Nat.le_of_ble_eq_true rfl) ?_
  refine vv_new (pc := 0) (N := 7) d_Q_readDeclaration_0 cp_ok9 cl_Q_36 rfl ?_
  refine vv_dup (pc := 3) d_Q_readDeclaration_3 rfl ?_
  refine vv_bipush (pc := 4) (v := 17) d_Q_readDeclaration_4 rfl ?_
  refine vv_iconst (pc := 6) (v := 0) d_Q_readDeclaration_6 rfl ?_
  refine vv_iconst (pc := 7) (v := 0) d_Q_readDeclaration_7 rfl ?_
  refine vv_callI (pc := 8) (As := [.int 17, .int 0, .int 0]) d_Q_readDeclaration_8 (x_N_init (c := c) hc1 hc2 hc3 hc4 hc5 (d := d - 1) (by omega) rfl) k_N_init ml_Q_38.1 ml_Q_38.2.1 ml_Q_38.2.2.1 ml_Q_38.2.2.2 (by omega) (Nat.le_of_ble_eq_true rfl) ?_
  refine vv_astore_n (pc := 11) d_Q_readDeclaration_11 cp_isr_r (Nat.le_of_ble_eq_true rfl) ?_
  refine vv_aload_n (pc := 12) d_Q_readDeclaration_12 rfl ?_
  refine vv_aload_n (pc := 13) d_Q_readDeclaration_13 rfl ?_
  refine vv_callV (pc := 14) (As := [.ref (cp_b G + 86)]) d_Q_readDeclaration_14 (x_Q_readParts (c := c) hc1 hc2 hc3 hc4 hc5 (d := d - 1) (by omega) H21 E21_2 E21_1) k_Q_readParts ml_Q_45.1 ml_Q_45.2.1 ml_Q_45.2.2.1 ml_Q_45.2.2.2.1 ml_Q_45.2.2.2.2 (by decide) H21 (by omega) (Nat.le_of_ble_eq_true rfl) ?_
  refine vv_if_ne (pc := 17) (tgt := 22) d_Q_readDeclaration_17 rfl (fun hc => absurd (by decide +kernel) hc) (fun _ => ?_)
  refine vv_null (pc := 20) d_Q_readDeclaration_20 ?_
  exact vv_aret (pc := 21) d_Q_readDeclaration_21 rfl (Or.inl ⟨_, rfl⟩) cp_isr_n
theorem x_Q_place_2 {G : cp_G} {h : Nat → cp_E} {z d : Nat} {g21 : Nat → Value} {c : Int32} (hc1 : ¬ c < 65) (hc2 : ¬ 90 < c) (hc3 : ¬ c - 65 < 0) (hc4 : ¬ 26 ≤ c - 65) (hc5 : vp_in (c - 65) 26) (hd : 0 ≤ d) (H21 : h 21 = .inr (5, g21)) (E21_2 : g21 2 = .int 0) : cp_C G d m_Q_place [.ref (cp_b G + 21)] h 87 z (some (.int 0)) h 87 (z + 0) := by
  refine cp_C.of rfl (Nat.le_of_ble_eq_true rfl) ?_
  refine vv_aload_n (pc := 0) d_Q_place_0 rfl ?_
  refine vv_getf (pc := 1) d_Q_place_1 fl_Q_19 (by decide) H21 E21_2 ?_
  exact vv_iret (pc := 4) d_Q_place_4 rfl
theorem x_P_fault_2 {G : cp_G} {h : Nat → cp_E} {z d : Nat} {g0 g21 : Nat → Value} {c : Int32} (hc1 : ¬ c < 65) (hc2 : ¬ 90 < c) (hc3 : ¬ c - 65 < 0) (hc4 : ¬ 26 ≤ c - 65) (hc5 : vp_in (c - 65) 26) (hd : 1 ≤ d) (H0 : h 0 = .inr (0, g0)) (E0_7 : g0 7 = .ref (cp_b G + 21)) (H21 : h 21 = .inr (5, g21)) (E21_2 : g21 2 = .int 0) : cp_C G d m_P_fault [.ref (cp_b G + 0)] h 87 z (some (.int (-1))) h 87 (z + 0) := by
  refine cp_C.of rfl (Nat.le_of_ble_eq_true rfl) ?_
  refine vv_iconst (pc := 0) (v := (-1)) d_P_fault_0 rfl ?_
  refine vv_aload_n (pc := 1) d_P_fault_1 rfl ?_
  refine vv_getf (pc := 2) d_P_fault_2 fl_P_47 (by decide) H0 E0_7 ?_
  refine vv_callV (pc := 5) (As := []) d_P_fault_5 (x_Q_place_2 (c := c) hc1 hc2 hc3 hc4 hc5 (d := d - 1) (by omega) H21 E21_2) k_Q_place ml_P_219.1 ml_P_219.2.1 ml_P_219.2.2.1 ml_P_219.2.2.2.1 ml_P_219.2.2.2.2 (by decide) H21 (by omega) (Nat.le_of_ble_eq_true rfl) ?_
  refine vv_isub (pc := 8) d_P_fault_8 ?_
  refine vv_topi (y := (-1)) (by decide +kernel) ?_
  exact vv_iret (pc := 9) d_P_fault_9 rfl
theorem x_P_declare_3 {G : cp_G} {h : Nat → cp_E} {z d : Nat} {g0 g3 g21 g6 g7 g14 g15 g17 g19 : Nat → Value} {f1 : Nat → Int32} {c : Int32} (hc1 : ¬ c < 65) (hc2 : ¬ 90 < c) (hc3 : ¬ c - 65 < 0) (hc4 : ¬ 26 ≤ c - 65) (hc5 : vp_in (c - 65) 26) (hd : 5 ≤ d) (H0 : h 0 = .inr (0, g0)) (E0_4 : g0 4 = .ref (cp_b G + 3)) (H3 : h 3 = .inr (1, g3)) (E3_0 : g3 0 = .ref (cp_b G + 4)) (H4 : h 4 = .inl (cp_cE G, 26, .inr (.inr (.inr (.inr (fun _ => none)))))) (E0_7 : g0 7 = .ref (cp_b G + 21)) (E0_0 : g0 0 = .ref (cp_b G + 1)) (E0_1 : g0 1 = .int 0) (H21 : h 21 = .inr (5, g21)) (H1 : h 1 = .inl (cp_cC G, 80, .inl f1)) (E0_5 : g0 5 = .ref (cp_b G + 6)) (H6 : h 6 = .inr (2, g6)) (E6_0 : g6 0 = .ref (cp_b G + 7)) (H7 : h 7 = .inr (3, g7)) (E7_1 : g7 1 = .int 0) (E0_6 : g0 6 = .ref (cp_b G + 14)) (H14 : h 14 = .inr (4, g14)) (E14_0 : g14 0 = .ref (cp_b G + 15)) (H15 : h 15 = .inr (3, g15)) (E15_1 : g15 1 = .int 0) (E14_1 : g14 1 = .ref (cp_b G + 17)) (H17 : h 17 = .inr (3, g17)) (E17_1 : g17 1 = .int 0) (E14_2 : g14 2 = .ref (cp_b G + 19)) (H19 : h 19 = .inr (3, g19)) (E19_1 : g19 1 = .int 0) : cp_C G d m_P_declare [.ref (cp_b G + 0), .int c] h 86 z (some (.int (-1))) (va_up (va_up (va_up (va_up (va_up (va_up (va_up (va_up (va_up (va_up (va_up (va_up h 21 (.inr (5, (va_up g21 0 (.ref (cp_b G + 1)))))) 21 (.inr (5, (va_up (va_up g21 0 (.ref (cp_b G + 1))) 1 (.int 0))))) 21 (.inr (5, (va_up (va_up (va_up g21 0 (.ref (cp_b G + 1))) 1 (.int 0)) 2 (.int 0))))) 0 (.inr (0, (va_up g0 1 (.int 0))))) 86 (.inr (9, (fun k => defaultValue (cp_ty 9 k))))) 86 (.inr (9, (va_up (fun k => defaultValue (cp_ty 9 k)) 0 (.int 17))))) 86 (.inr (9, (va_up (va_up (fun k => defaultValue (cp_ty 9 k)) 0 (.int 17)) 1 (.int 0))))) 86 (.inr (9, (va_up (va_up (va_up (fun k => defaultValue (cp_ty 9 k)) 0 (.int 17)) 1 (.int 0)) 2 (.int 0))))) 86 (.inr (9, (va_up (va_up (va_up (va_up (fun k => defaultValue (cp_ty 9 k)) 0 (.int 17)) 1 (.int 0)) 2 (.int 0)) 3 (.int 0))))) 86 (.inr (9, (va_up (va_up (va_up (va_up (va_up (fun k => defaultValue (cp_ty 9 k)) 0 (.int 17)) 1 (.int 0)) 2 (.int 0)) 3 (.int 0)) 4 (.null))))) 86 (.inr (9, (va_up (va_up (va_up (va_up (va_up (va_up (fun k => defaultValue (cp_ty 9 k)) 0 (.int 17)) 1 (.int 0)) 2 (.int 0)) 3 (.int 0)) 4 (.null)) 5 (.null))))) 86 (.inr (9, (va_up (va_up (va_up (va_up (va_up (va_up (va_up (fun k => defaultValue (cp_ty 9 k)) 0 (.int 17)) 1 (.int 0)) 2 (.int 0)) 3 (.int 0)) 4 (.null)) 5 (.null)) 6 (.null))))) 87 (z + 7) := by
  refine cp_C.of rfl (Nat.le_of_ble_eq_true rfl) ?_
  refine vv_aload_n (pc := 0) d_P_declare_0 rfl ?_
  refine vv_iload_n (pc := 1) d_P_declare_1 rfl ?_
  refine vv_callV (pc := 2) (As := [.int c]) d_P_declare_2 (x_P_refuseUnlessFree_3 (c := c) hc1 hc2 hc3 hc4 hc5 (d := d - 1) (by omega) H0 E0_4 H3 E3_0 H4) k_P_refuseUnlessFree ml_P_86.1 ml_P_86.2.1 ml_P_86.2.2.1 ml_P_86.2.2.2.1 ml_P_86.2.2.2.2 (by decide) H0 (by omega) (Nat.le_of_ble_eq_true rfl) ?_
  refine vv_aload_n (pc := 5) d_P_declare_5 rfl ?_
  refine vv_callV (pc := 6) (As := []) d_P_declare_6 (x_P_openText_2 (c := c) hc1 hc2 hc3 hc4 hc5 (d := d - 1) (by omega) H0 E0_7 E0_0 E0_1 H21 H1 E0_5 H6 E6_0 H7 E7_1 E0_6 H14 E14_0 H15 E15_1 E14_1 H17 E17_1 E14_2 H19 E19_1) k_P_openText ml_P_90.1 ml_P_90.2.1 ml_P_90.2.2.1 ml_P_90.2.2.2.1 ml_P_90.2.2.2.2 (by decide) H0 (by omega) (Nat.le_of_ble_eq_true rfl) ?_
  refine vv_aload_n (pc := 9) d_P_declare_9 rfl ?_
  refine vv_getf (pc := 10) d_P_declare_10 fl_P_47 (by decide) rfl E0_7 ?_
  refine vv_callV (pc := 13) (As := []) d_P_declare_13 (x_Q_readDeclaration (c := c) hc1 hc2 hc3 hc4 hc5 (d := d - 1) (by omega) rfl rfl rfl) k_Q_readDeclaration ml_P_93.1 ml_P_93.2.1 ml_P_93.2.2.1 ml_P_93.2.2.2.1 ml_P_93.2.2.2.2 (by decide) rfl (by omega) (Nat.le_of_ble_eq_true rfl) ?_
  refine vv_astore_n (pc := 16) d_P_declare_16 cp_isr_n (Nat.le_of_ble_eq_true rfl) ?_
  refine vv_aload_nN (pc := 17) d_P_declare_17 rfl ?_
  refine vv_ifnonnullN (pc := 18) d_P_declare_18 ?_
  refine vv_aload_n (pc := 21) d_P_declare_21 rfl ?_
  refine vv_callV (pc := 22) (As := []) d_P_declare_22 (x_P_fault_2 (c := c) hc1 hc2 hc3 hc4 hc5 (d := d - 1) (by omega) rfl E0_7 rfl rfl) k_P_fault ml_P_97.1 ml_P_97.2.1 ml_P_97.2.2.1 ml_P_97.2.2.2.1 ml_P_97.2.2.2.2 (by decide) rfl (by omega) (Nat.le_of_ble_eq_true rfl) ?_
  exact vv_iret (pc := 25) d_P_declare_25 rfl
theorem x_L_declare_3 {G : cp_G} {h : Nat → cp_E} {z d : Nat} {g0 g3 g21 g6 g7 g14 g15 g17 g19 : Nat → Value} {f1 : Nat → Int32} {c : Int32} (hc1 : ¬ c < 65) (hc2 : ¬ 90 < c) (hc3 : ¬ c - 65 < 0) (hc4 : ¬ 26 ≤ c - 65) (hc5 : vp_in (c - 65) 26) (hd : 6 ≤ d) (H0 : h 0 = .inr (0, g0)) (E0_4 : g0 4 = .ref (cp_b G + 3)) (H3 : h 3 = .inr (1, g3)) (E3_0 : g3 0 = .ref (cp_b G + 4)) (H4 : h 4 = .inl (cp_cE G, 26, .inr (.inr (.inr (.inr (fun _ => none)))))) (E0_7 : g0 7 = .ref (cp_b G + 21)) (E0_0 : g0 0 = .ref (cp_b G + 1)) (E0_1 : g0 1 = .int 0) (H21 : h 21 = .inr (5, g21)) (H1 : h 1 = .inl (cp_cC G, 80, .inl f1)) (E0_5 : g0 5 = .ref (cp_b G + 6)) (H6 : h 6 = .inr (2, g6)) (E6_0 : g6 0 = .ref (cp_b G + 7)) (H7 : h 7 = .inr (3, g7)) (E7_1 : g7 1 = .int 0) (E0_6 : g0 6 = .ref (cp_b G + 14)) (H14 : h 14 = .inr (4, g14)) (E14_0 : g14 0 = .ref (cp_b G + 15)) (H15 : h 15 = .inr (3, g15)) (E15_1 : g15 1 = .int 0) (E14_1 : g14 1 = .ref (cp_b G + 17)) (H17 : h 17 = .inr (3, g17)) (E17_1 : g17 1 = .int 0) (E14_2 : g14 2 = .ref (cp_b G + 19)) (H19 : h 19 = .inr (3, g19)) (E19_1 : g19 1 = .int 0) (H85 : h 85 = .inl (cp_cL G, 1, .inr (.inl (fun _ => 0)))) : cp_CW G d m_L_declare [(0, 9, 12, 13), (0, 9, 15, 15)] [.ref (cp_b G + 0), .int c, .ref (cp_b G + 85)] h 86 z (some (.int 0)) (va_up (va_up (va_up (va_up (va_up (va_up (va_up (va_up (va_up (va_up (va_up (va_up (va_up h 21 (.inr (5, (va_up g21 0 (.ref (cp_b G + 1)))))) 21 (.inr (5, (va_up (va_up g21 0 (.ref (cp_b G + 1))) 1 (.int 0))))) 21 (.inr (5, (va_up (va_up (va_up g21 0 (.ref (cp_b G + 1))) 1 (.int 0)) 2 (.int 0))))) 0 (.inr (0, (va_up g0 1 (.int 0))))) 86 (.inr (9, (fun k => defaultValue (cp_ty 9 k))))) 86 (.inr (9, (va_up (fun k => defaultValue (cp_ty 9 k)) 0 (.int 17))))) 86 (.inr (9, (va_up (va_up (fun k => defaultValue (cp_ty 9 k)) 0 (.int 17)) 1 (.int 0))))) 86 (.inr (9, (va_up (va_up (va_up (fun k => defaultValue (cp_ty 9 k)) 0 (.int 17)) 1 (.int 0)) 2 (.int 0))))) 86 (.inr (9, (va_up (va_up (va_up (va_up (fun k => defaultValue (cp_ty 9 k)) 0 (.int 17)) 1 (.int 0)) 2 (.int 0)) 3 (.int 0))))) 86 (.inr (9, (va_up (va_up (va_up (va_up (va_up (fun k => defaultValue (cp_ty 9 k)) 0 (.int 17)) 1 (.int 0)) 2 (.int 0)) 3 (.int 0)) 4 (.null))))) 86 (.inr (9, (va_up (va_up (va_up (va_up (va_up (va_up (fun k => defaultValue (cp_ty 9 k)) 0 (.int 17)) 1 (.int 0)) 2 (.int 0)) 3 (.int 0)) 4 (.null)) 5 (.null))))) 86 (.inr (9, (va_up (va_up (va_up (va_up (va_up (va_up (va_up (fun k => defaultValue (cp_ty 9 k)) 0 (.int 17)) 1 (.int 0)) 2 (.int 0)) 3 (.int 0)) 4 (.null)) 5 (.null)) 6 (.null))))) 85 (.inl (cp_cL G, 1, .inr (.inl (vp_updL (fun _ => 0) (0 : Int32).toNatClampNeg (-1)))))) 87 (z + 7) := by
  refine cp_CW.of rfl (Nat.le_of_ble_eq_true rfl) ?_
  refine vv_aload_n (pc := 0) d_L_declare_0 rfl ?_
  refine vv_iconst (pc := 1) (v := 0) d_L_declare_1 rfl ?_
  refine vv_aload_n (pc := 2) d_L_declare_2 rfl ?_
  refine vv_iload_n (pc := 3) d_L_declare_3 rfl ?_
  refine vv_callV (pc := 4) (As := [.int c]) d_L_declare_4 (x_P_declare_3 (c := c) hc1 hc2 hc3 hc4 hc5 (d := d - 1) (by omega) H0 E0_4 H3 E3_0 H4 E0_7 E0_0 E0_1 H21 H1 E0_5 H6 E6_0 H7 E7_1 E0_6 H14 E14_0 H15 E15_1 E14_1 H17 E17_1 E14_2 H19 E19_1) k_P_declare ml_L_7.1 ml_L_7.2.1 ml_L_7.2.2.1 ml_L_7.2.2.2.1 ml_L_7.2.2.2.2 (by decide) H0 (by omega) (Nat.le_of_ble_eq_true rfl) ?_
  refine vv_i2l (pc := 7) d_L_declare_7 ?_
  refine vv_last (pc := 8) d_L_declare_8 (by decide) H85 (by unfold vp_in; decide +kernel) ?_
  refine vv_goto (pc := 9) (tgt := 18) d_L_declare_9 rfl ?_
  refine vv_iconst (pc := 18) (v := 0) d_L_declare_18 rfl ?_
  exact vv_iret (pc := 19) d_L_declare_19 rfl
theorem x_M_isLetter_3 {G : cp_G} {h : Nat → cp_E} {z d : Nat} {c : Int32} (hc1 : ¬ c < 65) (hc2 : ¬ 90 < c) (hc3 : ¬ c - 65 < 0) (hc4 : ¬ 26 ≤ c - 65) (hc5 : vp_in (c - 65) 26) (hd : 0 ≤ d) : cp_C G d m_M_isLetter [.int c] h 87 z (some (.int 1)) h 87 (z + 0) := by
  refine cp_C.of rfl (Nat.le_of_ble_eq_true rfl) ?_
  refine vv_iload_n (pc := 0) d_M_isLetter_0 rfl ?_
  refine vv_bipush (pc := 1) (v := 65) d_M_isLetter_1 rfl ?_
  refine vv_icmp_lt (pc := 3) (tgt := 16) d_M_isLetter_3 rfl (fun hc => absurd hc hc1) (fun _ => ?_)
  refine vv_iload_n (pc := 6) d_M_isLetter_6 rfl ?_
  refine vv_bipush (pc := 7) (v := 90) d_M_isLetter_7 rfl ?_
  refine vv_icmp_gt (pc := 9) (tgt := 16) d_M_isLetter_9 rfl (fun hc => absurd hc hc2) (fun _ => ?_)
  refine vv_iconst (pc := 12) (v := 1) d_M_isLetter_12 rfl ?_
  refine vv_goto (pc := 13) (tgt := 17) d_M_isLetter_13 rfl ?_
  exact vv_zret (pc := 17) d_M_isLetter_17 rfl rfl
theorem x_M_mayName_3 {G : cp_G} {h : Nat → cp_E} {z d : Nat} {g26 : Nat → Value} {f30 : Nat → Int32} {c : Int32} (hc1 : ¬ c < 65) (hc2 : ¬ 90 < c) (hc3 : ¬ c - 65 < 0) (hc4 : ¬ 26 ≤ c - 65) (hc5 : vp_in (c - 65) 26) (hd : 1 ≤ d) (H26 : h 26 = .inr (11, g26)) (E26_6 : g26 6 = .ref (cp_b G + 30)) (H30 : h 30 = .inl (cp_cI G, 26, .inl f30)) (Z30 : f30 = fun _ => 0) : cp_C G d m_M_mayName [.ref (cp_b G + 26), .int c] h 87 z (some (.int 1)) (va_up h 26 (.inr (11, (va_up g26 0 (.int 0))))) 87 (z + 0) := by
  refine cp_C.of rfl (Nat.le_of_ble_eq_true rfl) ?_
  refine vv_aload_n (pc := 0) d_M_mayName_0 rfl ?_
  refine vv_iload_n (pc := 1) d_M_mayName_1 rfl ?_
  refine vv_callS (pc := 2) (As := [.int c]) d_M_mayName_2 (x_M_isLetter_3 (c := c) hc1 hc2 hc3 hc4 hc5 (d := d - 1) (by omega)) k_M_isLetter ml_M_215.1 ml_M_215.2 (by omega) (Nat.le_of_ble_eq_true rfl) ?_
  refine vv_if_ne (pc := 5) (tgt := 12) d_M_mayName_5 rfl (fun _ => ?_) (fun hc => absurd hc (by decide +kernel))
  refine vv_aload_n (pc := 12) d_M_mayName_12 rfl ?_
  refine vv_getf (pc := 13) d_M_mayName_13 fl_M_19 (by decide) H26 E26_6 ?_
  refine vv_iload_n (pc := 16) d_M_mayName_16 rfl ?_
  refine vv_bipush (pc := 17) (v := 65) d_M_mayName_17 rfl ?_
  refine vv_isub (pc := 19) d_M_mayName_19 ?_
  refine vv_iald (pc := 20) d_M_mayName_20 (by decide) H30 hc5 ?_
  refine vv_topi (y := 0) (congrFun Z30 _) ?_
  refine vv_if_eq (pc := 21) (tgt := 28) d_M_mayName_21 rfl (fun _ => ?_) (fun hc => absurd (by decide +kernel) hc)
  refine vv_iconst (pc := 28) (v := 0) d_M_mayName_28 rfl ?_
  refine vv_putf (pc := 29) d_M_mayName_29 fl_M_184 (by decide) H26 rfl rfl rfl ?_
  refine vv_aload_n (pc := 32) d_M_mayName_32 rfl ?_
  refine vv_getf (pc := 33) d_M_mayName_33 fl_M_184 (by decide) rfl rfl ?_
  refine vv_if_ne (pc := 36) (tgt := 43) d_M_mayName_36 rfl (fun hc => absurd (by decide +kernel) hc) (fun _ => ?_)
  refine vv_iconst (pc := 39) (v := 1) d_M_mayName_39 rfl ?_
  refine vv_goto (pc := 40) (tgt := 44) d_M_mayName_40 rfl ?_
  exact vv_zret (pc := 44) d_M_mayName_44 rfl rfl
theorem x_M_push_2 {G : cp_G} {h : Nat → cp_E} {z d : Nat} {g26 : Nat → Value} {f49 f50 f51 : Nat → Int32} {c : Int32} (hc1 : ¬ c < 65) (hc2 : ¬ 90 < c) (hc3 : ¬ c - 65 < 0) (hc4 : ¬ 26 ≤ c - 65) (hc5 : vp_in (c - 65) 26) (hd : 0 ≤ d) (H26 : h 26 = .inr (11, g26)) (E26_30 : g26 30 = .ref (cp_b G + 49)) (E26_29 : g26 29 = .int 0) (H49 : h 49 = .inl (cp_cI G, 400, .inl f49)) (E26_31 : g26 31 = .ref (cp_b G + 50)) (H50 : h 50 = .inl (cp_cI G, 400, .inl f50)) (E26_32 : g26 32 = .ref (cp_b G + 51)) (H51 : h 51 = .inl (cp_cI G, 400, .inl f51)) : cp_C G d m_M_push [.ref (cp_b G + 26), .int 203, .int 0, .int 0] h 87 z none (va_up (va_up (va_up (va_up h 49 (.inl (cp_cI G, 400, .inl (upd f49 0 203)))) 50 (.inl (cp_cI G, 400, .inl (upd f50 0 0)))) 51 (.inl (cp_cI G, 400, .inl (upd f51 0 0)))) 26 (.inr (11, (va_up g26 29 (.int 1))))) 87 (z + 0) := by
  refine cp_C.of rfl (Nat.le_of_ble_eq_true rfl) ?_
  refine vv_aload_n (pc := 0) d_M_push_0 rfl ?_
  refine vv_getf (pc := 1) d_M_push_1 fl_M_76 (by decide) H26 E26_30 ?_
  refine vv_aload_n (pc := 4) d_M_push_4 rfl ?_
  refine vv_getf (pc := 5) d_M_push_5 fl_M_191 (by decide) H26 E26_29 ?_
  refine vv_iload_n (pc := 8) d_M_push_8 rfl ?_
  refine vv_iasN (pc := 9) (j := 0) d_M_push_9 (by decide) H49 (by decide) (by decide) ?_
  refine vv_aload_n (pc := 10) d_M_push_10 rfl ?_
  refine vv_getf (pc := 11) d_M_push_11 fl_M_79 (by decide) H26 E26_31 ?_
  refine vv_aload_n (pc := 14) d_M_push_14 rfl ?_
  refine vv_getf (pc := 15) d_M_push_15 fl_M_191 (by decide) H26 E26_29 ?_
  refine vv_iload_n (pc := 18) d_M_push_18 rfl ?_
  refine vv_iasN (pc := 19) (j := 0) d_M_push_19 (by decide) H50 (by decide) (by decide) ?_
  refine vv_aload_n (pc := 20) d_M_push_20 rfl ?_
  refine vv_getf (pc := 21) d_M_push_21 fl_M_82 (by decide) H26 E26_32 ?_
  refine vv_aload_n (pc := 24) d_M_push_24 rfl ?_
  refine vv_getf (pc := 25) d_M_push_25 fl_M_191 (by decide) H26 E26_29 ?_
  refine vv_iload_n (pc := 28) d_M_push_28 rfl ?_
  refine vv_iasN (pc := 29) (j := 0) d_M_push_29 (by decide) H51 (by decide) (by decide) ?_
  refine vv_aload_n (pc := 30) d_M_push_30 rfl ?_
  refine vv_dup (pc := 31) d_M_push_31 rfl ?_
  refine vv_getf (pc := 32) d_M_push_32 fl_M_191 (by decide) H26 E26_29 ?_
  refine vv_iconst (pc := 35) (v := 1) d_M_push_35 rfl ?_
  refine vv_iadd (pc := 36) d_M_push_36 ?_
  refine vv_topi (y := 1) (by decide +kernel) ?_
  refine vv_putf (pc := 37) d_M_push_37 fl_M_191 (by decide) H26 rfl rfl rfl ?_
  exact vv_vret (pc := 40) d_M_push_40 rfl
theorem x_M_read_2 {G : cp_G} {h : Nat → cp_E} {z d : Nat} {g26 : Nat → Value} {f49 f50 f51 : Nat → Int32} {c : Int32} (hc1 : ¬ c < 65) (hc2 : ¬ 90 < c) (hc3 : ¬ c - 65 < 0) (hc4 : ¬ 26 ≤ c - 65) (hc5 : vp_in (c - 65) 26) (hd : 1 ≤ d) (H26 : h 26 = .inr (11, g26)) (E26_1 : g26 1 = .int 0) (E26_23 : g26 23 = .int 0) (E26_16 : g26 16 = .int 0) (E26_30 : g26 30 = .ref (cp_b G + 49)) (H49 : h 49 = .inl (cp_cI G, 400, .inl f49)) (E26_31 : g26 31 = .ref (cp_b G + 50)) (H50 : h 50 = .inl (cp_cI G, 400, .inl f50)) (E26_32 : g26 32 = .ref (cp_b G + 51)) (H51 : h 51 = .inl (cp_cI G, 400, .inl f51)) : cp_C G d m_M_read [.ref (cp_b G + 26), .int 203, .int 0, .int 0] h 87 z (some (.int 0)) (va_up (va_up (va_up (va_up (va_up (va_up (va_up (va_up h 26 (.inr (11, (va_up g26 1 (.int 0))))) 26 (.inr (11, (va_up (va_up g26 1 (.int 0)) 29 (.int 0))))) 26 (.inr (11, (va_up (va_up (va_up g26 1 (.int 0)) 29 (.int 0)) 33 (.int 0))))) 26 (.inr (11, (va_up (va_up (va_up (va_up g26 1 (.int 0)) 29 (.int 0)) 33 (.int 0)) 20 (.int 0))))) 49 (.inl (cp_cI G, 400, .inl (upd f49 0 203)))) 50 (.inl (cp_cI G, 400, .inl (upd f50 0 0)))) 51 (.inl (cp_cI G, 400, .inl (upd f51 0 0)))) 26 (.inr (11, (va_up (va_up (va_up (va_up (va_up g26 1 (.int 0)) 29 (.int 0)) 33 (.int 0)) 20 (.int 0)) 29 (.int 1))))) 87 (z + 0) := by
  refine cp_C.of rfl (Nat.le_of_ble_eq_true rfl) ?_
  refine vv_aload_n (pc := 0) d_M_read_0 rfl ?_
  refine vv_getf (pc := 1) d_M_read_1 fl_M_188 (by decide) H26 E26_1 ?_
  refine vv_istore (pc := 4) d_M_read_4 (Nat.le_of_ble_eq_true rfl) ?_
  refine vv_aload_n (pc := 6) d_M_read_6 rfl ?_
  refine vv_iconst (pc := 7) (v := 0) d_M_read_7 rfl ?_
  refine vv_putf (pc := 8) d_M_read_8 fl_M_188 (by decide) H26 rfl rfl rfl ?_
  refine vv_aload_n (pc := 11) d_M_read_11 rfl ?_
  refine vv_iconst (pc := 12) (v := 0) d_M_read_12 rfl ?_
  refine vv_putf (pc := 13) d_M_read_13 fl_M_191 (by decide) rfl rfl rfl rfl ?_
  refine vv_aload_n (pc := 16) d_M_read_16 rfl ?_
  refine vv_aload_n (pc := 17) d_M_read_17 rfl ?_
  refine vv_getf (pc := 18) d_M_read_18 fl_M_253 (by decide) rfl E26_23 ?_
  refine vv_putf (pc := 21) d_M_read_21 fl_M_222 (by decide) rfl rfl rfl rfl ?_
  refine vv_aload_n (pc := 24) d_M_read_24 rfl ?_
  refine vv_aload_n (pc := 25) d_M_read_25 rfl ?_
  refine vv_getf (pc := 26) d_M_read_26 fl_M_194 (by decide) rfl E26_16 ?_
  refine vv_putf (pc := 29) d_M_read_29 fl_M_197 (by decide) rfl rfl rfl rfl ?_
  refine vv_aload_n (pc := 32) d_M_read_32 rfl ?_
  refine vv_iload_n (pc := 33) d_M_read_33 rfl ?_
  refine vv_iload_n (pc := 34) d_M_read_34 rfl ?_
  refine vv_iload_n (pc := 35) d_M_read_35 rfl ?_
  refine vv_callV (pc := 36) (As := [.int 203, .int 0, .int 0]) d_M_read_36 (x_M_push_2 (c := c) hc1 hc2 hc3 hc4 hc5 (d := d - 1) (by omega) rfl E26_30 rfl H49 E26_31 H50 E26_32 H51) k_M_push ml_M_218.1 ml_M_218.2.1 ml_M_218.2.2.1 ml_M_218.2.2.2.1 ml_M_218.2.2.2.2 (by decide) rfl (by omega) (Nat.le_of_ble_eq_true rfl) ?_
  refine vv_iconst (pc := 39) (v := 0) d_M_read_39 rfl ?_
  refine vv_istore (pc := 40) d_M_read_40 (Nat.le_of_ble_eq_true rfl) ?_
  refine vv_iload (pc := 42) d_M_read_42 rfl ?_
  refine vv_iload (pc := 44) d_M_read_44 rfl ?_
  refine vv_icmp_ge (pc := 46) (tgt := 74) d_M_read_46 rfl (fun _ => ?_) (fun hc => absurd (by decide +kernel) hc)
  refine vv_iconst (pc := 74) (v := 1) d_M_read_74 rfl ?_
  refine vv_istore (pc := 75) d_M_read_75 (Nat.le_of_ble_eq_true rfl) ?_
  refine vv_iconst (pc := 77) (v := 0) d_M_read_77 rfl ?_
  refine vv_istore (pc := 78) d_M_read_78 (Nat.le_of_ble_eq_true rfl) ?_
  refine vv_iload (pc := 80) d_M_read_80 rfl ?_
  refine vv_aload_n (pc := 82) d_M_read_82 rfl ?_
  refine vv_getf (pc := 83) d_M_read_83 fl_M_191 (by decide) rfl rfl ?_
  refine vv_icmp_ge (pc := 86) (tgt := 181) d_M_read_86 rfl (fun hc => absurd hc (by decide +kernel)) (fun _ => ?_)
  refine vv_aload_n (pc := 89) d_M_read_89 rfl ?_
  refine vv_getf (pc := 90) d_M_read_90 fl_M_76 (by decide) rfl E26_30 ?_
  refine vv_iload (pc := 93) d_M_read_93 rfl ?_
  refine vv_ialN (pc := 95) (j := 0) d_M_read_95 (by decide) rfl (by decide) (by decide) ?_
  refine vv_topi (y := 203) rfl ?_
  refine vv_sipush (pc := 96) (v := 201) d_M_read_96 rfl ?_
  refine vv_icmp_eq (pc := 99) (tgt := 151) d_M_read_99 rfl (fun hc => absurd hc (by decide +kernel)) (fun _ => ?_)
  refine vv_aload_n (pc := 102) d_M_read_102 rfl ?_
  refine vv_getf (pc := 103) d_M_read_103 fl_M_76 (by decide) rfl E26_30 ?_
  refine vv_iload (pc := 106) d_M_read_106 rfl ?_
  refine vv_ialN (pc := 108) (j := 0) d_M_read_108 (by decide) rfl (by decide) (by decide) ?_
  refine vv_topi (y := 203) rfl ?_
  refine vv_sipush (pc := 109) (v := 211) d_M_read_109 rfl ?_
  refine vv_icmp_eq (pc := 112) (tgt := 151) d_M_read_112 rfl (fun hc => absurd hc (by decide +kernel)) (fun _ => ?_)
  refine vv_aload_n (pc := 115) d_M_read_115 rfl ?_
  refine vv_getf (pc := 116) d_M_read_116 fl_M_76 (by decide) rfl E26_30 ?_
  refine vv_iload (pc := 119) d_M_read_119 rfl ?_
  refine vv_ialN (pc := 121) (j := 0) d_M_read_121 (by decide) rfl (by decide) (by decide) ?_
  refine vv_topi (y := 203) rfl ?_
  refine vv_sipush (pc := 122) (v := 215) d_M_read_122 rfl ?_
  refine vv_icmp_eq (pc := 125) (tgt := 151) d_M_read_125 rfl (fun hc => absurd hc (by decide +kernel)) (fun _ => ?_)
  refine vv_aload_n (pc := 128) d_M_read_128 rfl ?_
  refine vv_getf (pc := 129) d_M_read_129 fl_M_76 (by decide) rfl E26_30 ?_
  refine vv_iload (pc := 132) d_M_read_132 rfl ?_
  refine vv_ialN (pc := 134) (j := 0) d_M_read_134 (by decide) rfl (by decide) (by decide) ?_
  refine vv_topi (y := 203) rfl ?_
  refine vv_sipush (pc := 135) (v := 218) d_M_read_135 rfl ?_
  refine vv_icmp_ne (pc := 138) (tgt := 155) d_M_read_138 rfl (fun _ => ?_) (fun hc => absurd hc (by decide +kernel))
  refine vv_iconst (pc := 155) (v := 0) d_M_read_155 rfl ?_
  refine vv_istore (pc := 156) d_M_read_156 (Nat.le_of_ble_eq_true rfl) ?_
  refine vv_iload (pc := 158) d_M_read_158 rfl ?_
  refine vv_if_eq (pc := 160) (tgt := 172) d_M_read_160 rfl (fun hc => absurd hc (by decide +kernel)) (fun _ => ?_)
  refine vv_iload (pc := 163) d_M_read_163 rfl ?_
  refine vv_if_eq (pc := 165) (tgt := 172) d_M_read_165 rfl (fun _ => ?_) (fun hc => absurd (by decide +kernel) hc)
  refine vv_iconst (pc := 172) (v := 0) d_M_read_172 rfl ?_
  refine vv_istore (pc := 173) d_M_read_173 (Nat.le_of_ble_eq_true rfl) ?_
  refine vv_iinc (pc := 175) (v := 1) d_M_read_175 rfl (by decide +kernel) (Nat.le_of_ble_eq_true rfl) ?_
  refine vv_goto (pc := 178) (tgt := 80) d_M_read_178 rfl ?_
  refine vv_iload (pc := 80) d_M_read_80 rfl ?_
  refine vv_aload_n (pc := 82) d_M_read_82 rfl ?_
  refine vv_getf (pc := 83) d_M_read_83 fl_M_191 (by decide) rfl rfl ?_
  refine vv_icmp_ge (pc := 86) (tgt := 181) d_M_read_86 rfl (fun _ => ?_) (fun hc => absurd (by decide +kernel) hc)
  refine vv_iload (pc := 181) d_M_read_181 rfl ?_
  refine vv_if_eq (pc := 183) (tgt := 190) d_M_read_183 rfl (fun _ => ?_) (fun hc => absurd (by decide +kernel) hc)
  refine vv_iload (pc := 190) d_M_read_190 rfl ?_
  exact vv_iret (pc := 192) d_M_read_192 rfl
theorem x_M_declare_3 {G : cp_G} {h : Nat → cp_E} {z d : Nat} {g26 : Nat → Value} {f30 f49 f50 f51 : Nat → Int32} {c : Int32} (hc1 : ¬ c < 65) (hc2 : ¬ 90 < c) (hc3 : ¬ c - 65 < 0) (hc4 : ¬ 26 ≤ c - 65) (hc5 : vp_in (c - 65) 26) (hd : 2 ≤ d) (H26 : h 26 = .inr (11, g26)) (E26_6 : g26 6 = .ref (cp_b G + 30)) (H30 : h 30 = .inl (cp_cI G, 26, .inl f30)) (Z30 : f30 = fun _ => 0) (E26_16 : g26 16 = .int 0) (E26_1 : g26 1 = .int 0) (E26_23 : g26 23 = .int 0) (E26_30 : g26 30 = .ref (cp_b G + 49)) (H49 : h 49 = .inl (cp_cI G, 400, .inl f49)) (E26_31 : g26 31 = .ref (cp_b G + 50)) (H50 : h 50 = .inl (cp_cI G, 400, .inl f50)) (E26_32 : g26 32 = .ref (cp_b G + 51)) (H51 : h 51 = .inl (cp_cI G, 400, .inl f51)) (E26_34 : g26 34 = .int 0) : cp_C G d m_M_declare [.ref (cp_b G + 26), .int c] h 87 z (some (.int (-1))) (va_up (va_up (va_up (va_up (va_up (va_up (va_up (va_up (va_up (va_up h 26 (.inr (11, (va_up g26 0 (.int 0))))) 26 (.inr (11, (va_up (va_up g26 0 (.int 0)) 1 (.int 0))))) 26 (.inr (11, (va_up (va_up (va_up g26 0 (.int 0)) 1 (.int 0)) 29 (.int 0))))) 26 (.inr (11, (va_up (va_up (va_up (va_up g26 0 (.int 0)) 1 (.int 0)) 29 (.int 0)) 33 (.int 0))))) 26 (.inr (11, (va_up (va_up (va_up (va_up (va_up g26 0 (.int 0)) 1 (.int 0)) 29 (.int 0)) 33 (.int 0)) 20 (.int 0))))) 49 (.inl (cp_cI G, 400, .inl (upd f49 0 203)))) 50 (.inl (cp_cI G, 400, .inl (upd f50 0 0)))) 51 (.inl (cp_cI G, 400, .inl (upd f51 0 0)))) 26 (.inr (11, (va_up (va_up (va_up (va_up (va_up (va_up g26 0 (.int 0)) 1 (.int 0)) 29 (.int 0)) 33 (.int 0)) 20 (.int 0)) 29 (.int 1))))) 26 (.inr (11, (va_up (va_up (va_up (va_up (va_up (va_up (va_up g26 0 (.int 0)) 1 (.int 0)) 29 (.int 0)) 33 (.int 0)) 20 (.int 0)) 29 (.int 1)) 16 (.int 0))))) 87 (z + 0) := by
  refine cp_C.of rfl (Nat.le_of_ble_eq_true rfl) ?_
  refine vv_aload_n (pc := 0) d_M_declare_0 rfl ?_
  refine vv_iload_n (pc := 1) d_M_declare_1 rfl ?_
  refine vv_callV (pc := 2) (As := [.int c]) d_M_declare_2 (x_M_mayName_3 (c := c) hc1 hc2 hc3 hc4 hc5 (d := d - 1) (by omega) H26 E26_6 H30 Z30) k_M_mayName ml_M_425.1 ml_M_425.2.1 ml_M_425.2.2.1 ml_M_425.2.2.2.1 ml_M_425.2.2.2.2 (by decide) H26 (by omega) (Nat.le_of_ble_eq_true rfl) ?_
  refine vv_if_ne (pc := 5) (tgt := 10) d_M_declare_5 rfl (fun _ => ?_) (fun hc => absurd hc (by decide +kernel))
  refine vv_iload_n (pc := 10) d_M_declare_10 rfl ?_
  refine vv_bipush (pc := 11) (v := 65) d_M_declare_11 rfl ?_
  refine vv_isub (pc := 13) d_M_declare_13 ?_
  refine vv_istore_n (pc := 14) d_M_declare_14 (Nat.le_of_ble_eq_true rfl) ?_
  refine vv_aload_n (pc := 15) d_M_declare_15 rfl ?_
  refine vv_getf (pc := 16) d_M_declare_16 fl_M_194 (by decide) rfl E26_16 ?_
  refine vv_istore_n (pc := 19) d_M_declare_19 (Nat.le_of_ble_eq_true rfl) ?_
  refine vv_aload_n (pc := 20) d_M_declare_20 rfl ?_
  refine vv_sipush (pc := 21) (v := 203) d_M_declare_21 rfl ?_
  refine vv_iconst (pc := 24) (v := 0) d_M_declare_24 rfl ?_
  refine vv_iconst (pc := 25) (v := 0) d_M_declare_25 rfl ?_
  refine vv_callV (pc := 26) (As := [.int 203, .int 0, .int 0]) d_M_declare_26 (x_M_read_2 (c := c) hc1 hc2 hc3 hc4 hc5 (d := d - 1) (by omega) rfl E26_1 E26_23 E26_16 E26_30 H49 E26_31 H50 E26_32 H51) k_M_read ml_M_429.1 ml_M_429.2.1 ml_M_429.2.2.1 ml_M_429.2.2.2.1 ml_M_429.2.2.2.2 (by decide) rfl (by omega) (Nat.le_of_ble_eq_true rfl) ?_
  refine vv_istore (pc := 29) d_M_declare_29 (Nat.le_of_ble_eq_true rfl) ?_
  refine vv_aload_n (pc := 31) d_M_declare_31 rfl ?_
  refine vv_getf (pc := 32) d_M_declare_32 fl_M_243 (by decide) rfl E26_34 ?_
  refine vv_istore (pc := 35) d_M_declare_35 (Nat.le_of_ble_eq_true rfl) ?_
  refine vv_iload (pc := 37) d_M_declare_37 rfl ?_
  refine vv_if_ge (pc := 39) (tgt := 51) d_M_declare_39 rfl (fun _ => ?_) (fun hc => absurd (by decide +kernel) hc)
  refine vv_aload_n (pc := 51) d_M_declare_51 rfl ?_
  refine vv_iload_n (pc := 52) d_M_declare_52 rfl ?_
  refine vv_putf (pc := 53) d_M_declare_53 fl_M_194 (by decide) rfl rfl rfl rfl ?_
  refine vv_iload (pc := 56) d_M_declare_56 rfl ?_
  refine vv_if_lt (pc := 58) (tgt := 68) d_M_declare_58 rfl (fun hc => absurd hc (by decide +kernel)) (fun _ => ?_)
  refine vv_iconst (pc := 61) (v := (-1)) d_M_declare_61 rfl ?_
  refine vv_iload (pc := 62) d_M_declare_62 rfl ?_
  refine vv_isub (pc := 64) d_M_declare_64 ?_
  refine vv_topi (y := (-1)) (by decide +kernel) ?_
  refine vv_goto (pc := 65) (tgt := 75) d_M_declare_65 rfl ?_
  exact vv_iret (pc := 75) d_M_declare_75 rfl
theorem x_M_thrown_4 {G : cp_G} {h : Nat → cp_E} {z d : Nat} {g26 : Nat → Value} {c : Int32} (hc1 : ¬ c < 65) (hc2 : ¬ 90 < c) (hc3 : ¬ c - 65 < 0) (hc4 : ¬ 26 ≤ c - 65) (hc5 : vp_in (c - 65) 26) (hd : 0 ≤ d) (H26 : h 26 = .inr (11, g26)) (E26_0 : g26 0 = .int 0) : cp_C G d m_M_thrown [.ref (cp_b G + 26)] h 87 z (some (.int 0)) h 87 (z + 0) := by
  refine cp_C.of rfl (Nat.le_of_ble_eq_true rfl) ?_
  refine vv_aload_n (pc := 0) d_M_thrown_0 rfl ?_
  refine vv_getf (pc := 1) d_M_thrown_1 fl_M_184 (by decide) H26 E26_0 ?_
  exact vv_iret (pc := 4) d_M_thrown_4 rfl
theorem p_law_2_le {G : cp_G} {h : Nat → cp_E} {z d bb : Nat} {xs : Nat → Int32} {g0 g3 g21 g6 g7 g14 g15 g17 g19 g26 : Nat → Value} {f1 f30 f49 f50 f51 : Nat → Int32} {c : Int32} (hc1 : ¬ c < 65) (hc2 : ¬ 90 < c) (hc3 : ¬ c - 65 < 0) (hc4 : ¬ 26 ≤ c - 65) (hc5 : vp_in (c - 65) 26) (hS : cp_scr G bb 2 xs) (hcx : ((xs 1).toUInt32 % 65536).toInt32 = c) (hd : 7 ≤ d) (H0 : h 0 = .inr (0, g0)) (E0_4 : g0 4 = .ref (cp_b G + 3)) (H3 : h 3 = .inr (1, g3)) (E3_0 : g3 0 = .ref (cp_b G + 4)) (H4 : h 4 = .inl (cp_cE G, 26, .inr (.inr (.inr (.inr (fun _ => none)))))) (E0_7 : g0 7 = .ref (cp_b G + 21)) (E0_0 : g0 0 = .ref (cp_b G + 1)) (E0_1 : g0 1 = .int 0) (H21 : h 21 = .inr (5, g21)) (H1 : h 1 = .inl (cp_cC G, 80, .inl f1)) (E0_5 : g0 5 = .ref (cp_b G + 6)) (H6 : h 6 = .inr (2, g6)) (E6_0 : g6 0 = .ref (cp_b G + 7)) (H7 : h 7 = .inr (3, g7)) (E7_1 : g7 1 = .int 0) (E0_6 : g0 6 = .ref (cp_b G + 14)) (H14 : h 14 = .inr (4, g14)) (E14_0 : g14 0 = .ref (cp_b G + 15)) (H15 : h 15 = .inr (3, g15)) (E15_1 : g15 1 = .int 0) (E14_1 : g14 1 = .ref (cp_b G + 17)) (H17 : h 17 = .inr (3, g17)) (E17_1 : g17 1 = .int 0) (E14_2 : g14 2 = .ref (cp_b G + 19)) (H19 : h 19 = .inr (3, g19)) (E19_1 : g19 1 = .int 0) (H85 : h 85 = .inl (cp_cL G, 1, .inr (.inl (fun _ => 0)))) (H26 : h 26 = .inr (11, g26)) (E26_6 : g26 6 = .ref (cp_b G + 30)) (H30 : h 30 = .inl (cp_cI G, 26, .inl f30)) (Z30 : f30 = fun _ => 0) (E26_16 : g26 16 = .int 0) (E26_1 : g26 1 = .int 0) (E26_23 : g26 23 = .int 0) (E26_30 : g26 30 = .ref (cp_b G + 49)) (H49 : h 49 = .inl (cp_cI G, 400, .inl f49)) (E26_31 : g26 31 = .ref (cp_b G + 50)) (H50 : h 50 = .inl (cp_cI G, 400, .inl f50)) (E26_32 : g26 32 = .ref (cp_b G + 51)) (H51 : h 51 = .inl (cp_cI G, 400, .inl f51)) (E26_34 : g26 34 = .int 0) : cp_V G m_law d 0 0 (.inl (some (.int 1))) (va_up (va_up (va_up (va_up (va_up (va_up (va_up (va_up (va_up (va_up (va_up (va_up (va_up (va_up (va_up (va_up (va_up (va_up (va_up (va_up (va_up (va_up (va_up h 21 (.inr (5, (va_up g21 0 (.ref (cp_b G + 1)))))) 21 (.inr (5, (va_up (va_up g21 0 (.ref (cp_b G + 1))) 1 (.int 0))))) 21 (.inr (5, (va_up (va_up (va_up g21 0 (.ref (cp_b G + 1))) 1 (.int 0)) 2 (.int 0))))) 0 (.inr (0, (va_up g0 1 (.int 0))))) 86 (.inr (9, (fun k => defaultValue (cp_ty 9 k))))) 86 (.inr (9, (va_up (fun k => defaultValue (cp_ty 9 k)) 0 (.int 17))))) 86 (.inr (9, (va_up (va_up (fun k => defaultValue (cp_ty 9 k)) 0 (.int 17)) 1 (.int 0))))) 86 (.inr (9, (va_up (va_up (va_up (fun k => defaultValue (cp_ty 9 k)) 0 (.int 17)) 1 (.int 0)) 2 (.int 0))))) 86 (.inr (9, (va_up (va_up (va_up (va_up (fun k => defaultValue (cp_ty 9 k)) 0 (.int 17)) 1 (.int 0)) 2 (.int 0)) 3 (.int 0))))) 86 (.inr (9, (va_up (va_up (va_up (va_up (va_up (fun k => defaultValue (cp_ty 9 k)) 0 (.int 17)) 1 (.int 0)) 2 (.int 0)) 3 (.int 0)) 4 (.null))))) 86 (.inr (9, (va_up (va_up (va_up (va_up (va_up (va_up (fun k => defaultValue (cp_ty 9 k)) 0 (.int 17)) 1 (.int 0)) 2 (.int 0)) 3 (.int 0)) 4 (.null)) 5 (.null))))) 86 (.inr (9, (va_up (va_up (va_up (va_up (va_up (va_up (va_up (fun k => defaultValue (cp_ty 9 k)) 0 (.int 17)) 1 (.int 0)) 2 (.int 0)) 3 (.int 0)) 4 (.null)) 5 (.null)) 6 (.null))))) 85 (.inl (cp_cL G, 1, .inr (.inl (vp_updL (fun _ => 0) (0 : Int32).toNatClampNeg (-1)))))) 26 (.inr (11, (va_up g26 0 (.int 0))))) 26 (.inr (11, (va_up (va_up g26 0 (.int 0)) 1 (.int 0))))) 26 (.inr (11, (va_up (va_up (va_up g26 0 (.int 0)) 1 (.int 0)) 29 (.int 0))))) 26 (.inr (11, (va_up (va_up (va_up (va_up g26 0 (.int 0)) 1 (.int 0)) 29 (.int 0)) 33 (.int 0))))) 26 (.inr (11, (va_up (va_up (va_up (va_up (va_up g26 0 (.int 0)) 1 (.int 0)) 29 (.int 0)) 33 (.int 0)) 20 (.int 0))))) 49 (.inl (cp_cI G, 400, .inl (upd f49 0 203)))) 50 (.inl (cp_cI G, 400, .inl (upd f50 0 0)))) 51 (.inl (cp_cI G, 400, .inl (upd f51 0 0)))) 26 (.inr (11, (va_up (va_up (va_up (va_up (va_up (va_up g26 0 (.int 0)) 1 (.int 0)) 29 (.int 0)) 33 (.int 0)) 20 (.int 0)) 29 (.int 1))))) 26 (.inr (11, (va_up (va_up (va_up (va_up (va_up (va_up (va_up g26 0 (.int 0)) 1 (.int 0)) 29 (.int 0)) 33 (.int 0)) 20 (.int 0)) 29 (.int 1)) 16 (.int 0))))) 87 (z + 7) 144 [(4, .int 0), (3, .ref (cp_b G + 85)), (2, .ref (cp_b G + 26)), (1, .ref (cp_b G + 0)), (0, .ref bb)] [] h 86 z := by
  refine vv_aload_n (pc := 144) d_law_144 rfl ?_
  refine vv_aload_n (pc := 145) d_law_145 rfl ?_
  refine vv_iload (pc := 146) d_law_146 rfl ?_
  refine vv_iconst (pc := 148) (v := 1) d_law_148 rfl ?_
  refine vv_iadd (pc := 149) d_law_149 ?_
  refine vv_topi (y := 1) (by decide +kernel) ?_
  refine vv_sld (pc := 150) hS d_law_150 (by unfold vp_in; decide +kernel) ?_
  refine vv_topi (y := xs 1) (congrArg xs (by decide +kernel)) ?_
  refine vv_i2c (pc := 151) d_law_151 ?_
  refine vv_topi (y := c) hcx ?_
  refine vv_aload_n (pc := 152) d_law_152 rfl ?_
  refine vv_callSW (pc := 153) (As := [.ref (cp_b G + 0), .int c, .ref (cp_b G + 85)]) (hh := [(0, 9, 12, 13), (0, 9, 15, 15)]) d_law_153 (x_L_declare_3 (c := c) hc1 hc2 hc3 hc4 hc5 (d := d - 1) (by omega) H0 E0_4 H3 E3_0 H4 E0_7 E0_0 E0_1 H21 H1 E0_5 H6 E6_0 H7 E7_1 E0_6 H14 E14_0 H15 E15_1 E14_1 H17 E17_1 E14_2 H19 E19_1 H85) cw_L_declare ci_L_declare (by decide) ⟨by decide, by decide⟩ cn_L_declare ml_L_45.1 ml_L_45.2 (by omega) (Nat.le_of_ble_eq_true rfl) ?_
  refine vv_istore (pc := 156) d_law_156 (Nat.le_of_ble_eq_true rfl) ?_
  refine vv_aload_n (pc := 158) d_law_158 rfl ?_
  refine vv_aload_n (pc := 159) d_law_159 rfl ?_
  refine vv_iload (pc := 160) d_law_160 rfl ?_
  refine vv_iconst (pc := 162) (v := 1) d_law_162 rfl ?_
  refine vv_iadd (pc := 163) d_law_163 ?_
  refine vv_topi (y := 1) (by decide +kernel) ?_
  refine vv_sld (pc := 164) hS d_law_164 (by unfold vp_in; decide +kernel) ?_
  refine vv_topi (y := xs 1) (congrArg xs (by decide +kernel)) ?_
  refine vv_i2c (pc := 165) d_law_165 ?_
  refine vv_topi (y := c) hcx ?_
  refine vv_callV (pc := 166) (As := [.int c]) d_law_166 (x_M_declare_3 (c := c) hc1 hc2 hc3 hc4 hc5 (d := d - 1) (by omega) H26 E26_6 H30 Z30 E26_16 E26_1 E26_23 E26_30 H49 E26_31 H50 E26_32 H51 E26_34) k_M_declare ml_L_50.1 ml_L_50.2.1 ml_L_50.2.2.1 ml_L_50.2.2.2.1 ml_L_50.2.2.2.2 (by decide) H26 (by omega) (Nat.le_of_ble_eq_true rfl) ?_
  refine vv_istore (pc := 169) d_law_169 (Nat.le_of_ble_eq_true rfl) ?_
  refine vv_aload_n (pc := 171) d_law_171 rfl ?_
  refine vv_callV (pc := 172) (As := []) d_law_172 (x_M_thrown_4 (c := c) hc1 hc2 hc3 hc4 hc5 (d := d - 1) (by omega) rfl rfl) k_M_thrown ml_L_51.1 ml_L_51.2.1 ml_L_51.2.2.1 ml_L_51.2.2.2.1 ml_L_51.2.2.2.2 (by decide) rfl (by omega) (Nat.le_of_ble_eq_true rfl) ?_
  refine vv_iload (pc := 175) d_law_175 rfl ?_
  refine vv_icmp_eq (pc := 177) (tgt := 182) d_law_177 rfl (fun _ => ?_) (fun hc => absurd (by decide +kernel) hc)
  refine vv_iload (pc := 182) d_law_182 rfl ?_
  refine vv_if_ne (pc := 184) (tgt := 199) d_law_184 rfl (fun hc => absurd (by decide +kernel) hc) (fun _ => ?_)
  refine vv_aload_n (pc := 187) d_law_187 rfl ?_
  refine vv_iconst (pc := 188) (v := 0) d_law_188 rfl ?_
  refine vv_lald (pc := 189) d_law_189 (by decide) rfl (by unfold vp_in; decide +kernel) ?_
  refine vv_iload (pc := 190) d_law_190 rfl ?_
  refine vv_i2l (pc := 192) d_law_192 ?_
  refine vv_lcmp (pc := 193) d_law_193 ?_
  refine vv_topi (y := 0) (by decide +kernel) ?_
  refine vv_if_eq (pc := 194) (tgt := 199) d_law_194 rfl (fun _ => ?_) (fun hc => absurd (by decide +kernel) hc)
  refine vv_goto (pc := 199) (tgt := 518) d_law_199 rfl ?_
  refine vv_iinc (pc := 518) (v := 2) d_law_518 rfl (by decide +kernel) (Nat.le_of_ble_eq_true rfl) ?_
  refine vv_goto (pc := 521) (tgt := 23) d_law_521 rfl ?_
  refine vv_iload (pc := 23) d_law_23 rfl ?_
  refine vv_aload_n (pc := 25) d_law_25 rfl ?_
  refine vv_slen (pc := 26) hS d_law_26 ?_
  refine vv_topi (y := 2) (by decide +kernel) ?_
  refine vv_iconst (pc := 27) (v := 2) d_law_27 rfl ?_
  refine vv_isub (pc := 28) d_law_28 ?_
  refine vv_topi (y := 0) (by decide +kernel) ?_
  refine vv_icmp_gt (pc := 29) (tgt := 524) d_law_29 rfl (fun _ => ?_) (fun hc => absurd (by decide +kernel) hc)
  refine vv_iconst (pc := 524) (v := 1) d_law_524 rfl ?_
  exact vv_zret (pc := 525) d_law_525 rfl rfl
theorem x_P_isLetter_6 {G : cp_G} {h : Nat → cp_E} {z d : Nat} {c : Int32} (hc1 : c < 65) (hc2 : c - 65 < 0) (hd : 0 ≤ d) : cp_C G d m_P_isLetter [.int c] h 86 z (some (.int 0)) h 86 (z + 0) := by
  refine cp_C.of rfl (Nat.le_of_ble_eq_true rfl) ?_
  refine vv_iload_n (pc := 0) d_P_isLetter_0 rfl ?_
  refine vv_bipush (pc := 1) (v := 65) d_P_isLetter_1 rfl ?_
  refine vv_icmp_lt (pc := 3) (tgt := 16) d_P_isLetter_3 rfl (fun _ => ?_) (fun hc => absurd hc1 hc)
  refine vv_iconst (pc := 16) (v := 0) d_P_isLetter_16 rfl ?_
  exact vv_zret (pc := 17) d_P_isLetter_17 rfl rfl
theorem x_P_refuseUnlessFree_4 {G : cp_G} {h : Nat → cp_E} {z d : Nat} {c : Int32} (hc1 : c < 65) (hc2 : c - 65 < 0) (hd : 6 ≤ d) : cp_CT G d m_P_refuseUnlessFree [.ref (cp_b G + 0), .int c] h 86 z 12 86 (va_up h 86 cp_junk) 87 (z + 6) := by
  refine cp_CT.of rfl (Nat.le_of_ble_eq_true rfl) ?_
  refine vv_iload_n (pc := 0) d_P_refuseUnlessFree_0 rfl ?_
  refine vv_callS (pc := 1) (As := [.int c]) d_P_refuseUnlessFree_1 (x_P_isLetter_6 (c := c) hc1 hc2 (d := d - 1) (by omega)) k_P_isLetter ml_P_200.1 ml_P_200.2 (by omega) (Nat.le_of_ble_eq_true rfl) ?_
  refine vv_if_ne (pc := 4) (tgt := 17) d_P_refuseUnlessFree_4 rfl (fun hc => absurd (by decide +kernel) hc) (fun _ => ?_)
  exact vv_throw (pc := 7) (tx := "not a letter A .. Z") d_P_refuseUnlessFree_7 d_P_refuseUnlessFree_10 d_P_refuseUnlessFree_11 d_P_refuseUnlessFree_13 d_P_refuseUnlessFree_16 cp_ok12 cl_P_176 rfl cp_thr12 (by decide) cp_fit12 (by omega) (Nat.le_of_ble_eq_true rfl) k_P_refuseUnlessFree.1
theorem x_P_program {G : cp_G} {h : Nat → cp_E} {z d : Nat} {g0 : Nat → Value} {c : Int32} (hc1 : c < 65) (hc2 : c - 65 < 0) (hd : 7 ≤ d) (H0 : h 0 = .inr (0, g0)) : cp_CT G d m_P_program [.ref (cp_b G + 0), .int c] h 86 z 12 86 (va_up h 86 cp_junk) 87 (z + 6) := by
  refine cp_CT.of rfl (Nat.le_of_ble_eq_true rfl) ?_
  refine vv_aload_n (pc := 0) d_P_program_0 rfl ?_
  refine vv_iload_n (pc := 1) d_P_program_1 rfl ?_
  exact vv_thV (pc := 2) (As := [.int c]) d_P_program_2 (x_P_refuseUnlessFree_4 (c := c) hc1 hc2 (d := d - 1) (by omega)) k_P_refuseUnlessFree ml_P_86.1 ml_P_86.2.1 ml_P_86.2.2.1 ml_P_86.2.2.2.1 ml_P_86.2.2.2.2 (by decide) H0 (by omega) (Nat.le_of_ble_eq_true rfl) k_P_program.1
theorem x_L_program {G : cp_G} {h : Nat → cp_E} {z d : Nat} {g0 : Nat → Value} {c : Int32} (hc1 : c < 65) (hc2 : c - 65 < 0) (hd : 8 ≤ d) (H0 : h 0 = .inr (0, g0)) : cp_CW G d m_L_program [(0, 9, 12, 13), (0, 9, 15, 15)] [.ref (cp_b G + 0), .int c, .ref (cp_b G + 85)] h 86 z (some (.int 1)) (va_up h 86 cp_junk) 87 (z + 6) := by
  refine cp_CW.of rfl (Nat.le_of_ble_eq_true rfl) ?_
  refine vv_aload_n (pc := 0) d_L_program_0 rfl ?_
  refine vv_iconst (pc := 1) (v := 0) d_L_program_1 rfl ?_
  refine vv_aload_n (pc := 2) d_L_program_2 rfl ?_
  refine vv_iload_n (pc := 3) d_L_program_3 rfl ?_
  refine vv_catch (pc := 4) (As := [.int c]) (hh := [(0, 9, 12, 13), (0, 9, 15, 15)]) (hpc := 12) d_L_program_4 (x_P_program (c := c) hc1 hc2 (d := d - 1) (by omega) H0) k_P_program ml_L_17.1 ml_L_17.2.1 ml_L_17.2.2.1 ml_L_17.2.2.2.1 ml_L_17.2.2.2.2 (by decide) H0 (by omega) (Nat.le_of_ble_eq_true rfl) (List.mem_of_getElem? (i := 1) rfl) rfl cl_L_13 cl_L_15 rfl ?_
  refine vv_astore_n (pc := 12) d_L_program_12 cp_isr_r (Nat.le_of_ble_eq_true rfl) ?_
  refine vv_iconst (pc := 13) (v := 1) d_L_program_13 rfl ?_
  exact vv_iret (pc := 14) d_L_program_14 rfl
theorem x_M_isLetter_4 {G : cp_G} {h : Nat → cp_E} {z d : Nat} {c : Int32} (hc1 : c < 65) (hc2 : c - 65 < 0) (hd : 0 ≤ d) : cp_C G d m_M_isLetter [.int c] h 87 z (some (.int 0)) h 87 (z + 0) := by
  refine cp_C.of rfl (Nat.le_of_ble_eq_true rfl) ?_
  refine vv_iload_n (pc := 0) d_M_isLetter_0 rfl ?_
  refine vv_bipush (pc := 1) (v := 65) d_M_isLetter_1 rfl ?_
  refine vv_icmp_lt (pc := 3) (tgt := 16) d_M_isLetter_3 rfl (fun _ => ?_) (fun hc => absurd hc1 hc)
  refine vv_iconst (pc := 16) (v := 0) d_M_isLetter_16 rfl ?_
  exact vv_zret (pc := 17) d_M_isLetter_17 rfl rfl
theorem x_M_mayName_4 {G : cp_G} {h : Nat → cp_E} {z d : Nat} {g26 : Nat → Value} {c : Int32} (hc1 : c < 65) (hc2 : c - 65 < 0) (hd : 1 ≤ d) (H26 : h 26 = .inr (11, g26)) : cp_C G d m_M_mayName [.ref (cp_b G + 26), .int c] h 87 z (some (.int 0)) (va_up h 26 (.inr (11, (va_up g26 0 (.int 1))))) 87 (z + 0) := by
  refine cp_C.of rfl (Nat.le_of_ble_eq_true rfl) ?_
  refine vv_aload_n (pc := 0) d_M_mayName_0 rfl ?_
  refine vv_iload_n (pc := 1) d_M_mayName_1 rfl ?_
  refine vv_callS (pc := 2) (As := [.int c]) d_M_mayName_2 (x_M_isLetter_4 (c := c) hc1 hc2 (d := d - 1) (by omega)) k_M_isLetter ml_M_215.1 ml_M_215.2 (by omega) (Nat.le_of_ble_eq_true rfl) ?_
  refine vv_if_ne (pc := 5) (tgt := 12) d_M_mayName_5 rfl (fun hc => absurd (by decide +kernel) hc) (fun _ => ?_)
  refine vv_iconst (pc := 8) (v := 1) d_M_mayName_8 rfl ?_
  refine vv_goto (pc := 9) (tgt := 29) d_M_mayName_9 rfl ?_
  refine vv_putf (pc := 29) d_M_mayName_29 fl_M_184 (by decide) H26 rfl rfl rfl ?_
  refine vv_aload_n (pc := 32) d_M_mayName_32 rfl ?_
  refine vv_getf (pc := 33) d_M_mayName_33 fl_M_184 (by decide) rfl rfl ?_
  refine vv_if_ne (pc := 36) (tgt := 43) d_M_mayName_36 rfl (fun _ => ?_) (fun hc => absurd hc (by decide +kernel))
  refine vv_iconst (pc := 43) (v := 0) d_M_mayName_43 rfl ?_
  exact vv_zret (pc := 44) d_M_mayName_44 rfl rfl
theorem x_M_program {G : cp_G} {h : Nat → cp_E} {z d : Nat} {g26 : Nat → Value} {c : Int32} (hc1 : c < 65) (hc2 : c - 65 < 0) (hd : 2 ≤ d) (H26 : h 26 = .inr (11, g26)) : cp_C G d m_M_program [.ref (cp_b G + 26), .int c] h 87 z (some (.int 0)) (va_up h 26 (.inr (11, (va_up g26 0 (.int 1))))) 87 (z + 0) := by
  refine cp_C.of rfl (Nat.le_of_ble_eq_true rfl) ?_
  refine vv_aload_n (pc := 0) d_M_program_0 rfl ?_
  refine vv_iload_n (pc := 1) d_M_program_1 rfl ?_
  refine vv_callV (pc := 2) (As := [.int c]) d_M_program_2 (x_M_mayName_4 (c := c) hc1 hc2 (d := d - 1) (by omega) H26) k_M_mayName ml_M_425.1 ml_M_425.2.1 ml_M_425.2.2.1 ml_M_425.2.2.2.1 ml_M_425.2.2.2.2 (by decide) H26 (by omega) (Nat.le_of_ble_eq_true rfl) ?_
  refine vv_if_ne (pc := 5) (tgt := 10) d_M_program_5 rfl (fun hc => absurd (by decide +kernel) hc) (fun _ => ?_)
  refine vv_iconst (pc := 8) (v := 0) d_M_program_8 rfl ?_
  exact vv_iret (pc := 9) d_M_program_9 rfl
theorem x_M_thrown_5 {G : cp_G} {h : Nat → cp_E} {z d : Nat} {g26 : Nat → Value} {c : Int32} (hc1 : c < 65) (hc2 : c - 65 < 0) (hd : 0 ≤ d) (H26 : h 26 = .inr (11, g26)) (E26_0 : g26 0 = .int 1) : cp_C G d m_M_thrown [.ref (cp_b G + 26)] h 87 z (some (.int 1)) h 87 (z + 0) := by
  refine cp_C.of rfl (Nat.le_of_ble_eq_true rfl) ?_
  refine vv_aload_n (pc := 0) d_M_thrown_0 rfl ?_
  refine vv_getf (pc := 1) d_M_thrown_1 fl_M_184 (by decide) H26 E26_0 ?_
  exact vv_iret (pc := 4) d_M_thrown_4 rfl
theorem p_law_3_lo {G : cp_G} {h : Nat → cp_E} {z d bb : Nat} {xs : Nat → Int32} {g0 g26 : Nat → Value} {c : Int32} (hc1 : c < 65) (hc2 : c - 65 < 0) (hS : cp_scr G bb 2 xs) (hcx : ((xs 1).toUInt32 % 65536).toInt32 = c) (hd : 9 ≤ d) (H0 : h 0 = .inr (0, g0)) (H26 : h 26 = .inr (11, g26)) : cp_V G m_law d 0 0 (.inl (some (.int 1))) (va_up (va_up h 86 cp_junk) 26 (.inr (11, (va_up g26 0 (.int 1))))) 87 (z + 6) 202 [(4, .int 0), (3, .ref (cp_b G + 85)), (2, .ref (cp_b G + 26)), (1, .ref (cp_b G + 0)), (0, .ref bb)] [] h 86 z := by
  refine vv_aload_n (pc := 202) d_law_202 rfl ?_
  refine vv_aload_n (pc := 203) d_law_203 rfl ?_
  refine vv_iload (pc := 204) d_law_204 rfl ?_
  refine vv_iconst (pc := 206) (v := 1) d_law_206 rfl ?_
  refine vv_iadd (pc := 207) d_law_207 ?_
  refine vv_topi (y := 1) (by decide +kernel) ?_
  refine vv_sld (pc := 208) hS d_law_208 (by unfold vp_in; decide +kernel) ?_
  refine vv_topi (y := xs 1) (congrArg xs (by decide +kernel)) ?_
  refine vv_i2c (pc := 209) d_law_209 ?_
  refine vv_topi (y := c) hcx ?_
  refine vv_aload_n (pc := 210) d_law_210 rfl ?_
  refine vv_callSW (pc := 211) (As := [.ref (cp_b G + 0), .int c, .ref (cp_b G + 85)]) (hh := [(0, 9, 12, 13), (0, 9, 15, 15)]) d_law_211 (x_L_program (c := c) hc1 hc2 (d := d - 1) (by omega) H0) cw_L_program ci_L_program (by decide) ⟨by decide, by decide⟩ cn_L_program ml_L_54.1 ml_L_54.2 (by omega) (Nat.le_of_ble_eq_true rfl) ?_
  refine vv_istore (pc := 214) d_law_214 (Nat.le_of_ble_eq_true rfl) ?_
  refine vv_aload_n (pc := 216) d_law_216 rfl ?_
  refine vv_aload_n (pc := 217) d_law_217 rfl ?_
  refine vv_iload (pc := 218) d_law_218 rfl ?_
  refine vv_iconst (pc := 220) (v := 1) d_law_220 rfl ?_
  refine vv_iadd (pc := 221) d_law_221 ?_
  refine vv_topi (y := 1) (by decide +kernel) ?_
  refine vv_sld (pc := 222) hS d_law_222 (by unfold vp_in; decide +kernel) ?_
  refine vv_topi (y := xs 1) (congrArg xs (by decide +kernel)) ?_
  refine vv_i2c (pc := 223) d_law_223 ?_
  refine vv_topi (y := c) hcx ?_
  refine vv_callV (pc := 224) (As := [.int c]) d_law_224 (x_M_program (c := c) hc1 hc2 (d := d - 1) (by omega) H26) k_M_program ml_L_56.1 ml_L_56.2.1 ml_L_56.2.2.1 ml_L_56.2.2.2.1 ml_L_56.2.2.2.2 (by decide) H26 (by omega) (Nat.le_of_ble_eq_true rfl) ?_
  refine vv_istore (pc := 227) d_law_227 (Nat.le_of_ble_eq_true rfl) ?_
  refine vv_aload_n (pc := 229) d_law_229 rfl ?_
  refine vv_callV (pc := 230) (As := []) d_law_230 (x_M_thrown_5 (c := c) hc1 hc2 (d := d - 1) (by omega) rfl rfl) k_M_thrown ml_L_51.1 ml_L_51.2.1 ml_L_51.2.2.1 ml_L_51.2.2.2.1 ml_L_51.2.2.2.2 (by decide) rfl (by omega) (Nat.le_of_ble_eq_true rfl) ?_
  refine vv_iload (pc := 233) d_law_233 rfl ?_
  refine vv_icmp_eq (pc := 235) (tgt := 240) d_law_235 rfl (fun _ => ?_) (fun hc => absurd (by decide +kernel) hc)
  refine vv_iload (pc := 240) d_law_240 rfl ?_
  refine vv_if_ne (pc := 242) (tgt := 257) d_law_242 rfl (fun _ => ?_) (fun hc => absurd hc (by decide +kernel))
  refine vv_goto (pc := 257) (tgt := 518) d_law_257 rfl ?_
  refine vv_iinc (pc := 518) (v := 2) d_law_518 rfl (by decide +kernel) (Nat.le_of_ble_eq_true rfl) ?_
  refine vv_goto (pc := 521) (tgt := 23) d_law_521 rfl ?_
  refine vv_iload (pc := 23) d_law_23 rfl ?_
  refine vv_aload_n (pc := 25) d_law_25 rfl ?_
  refine vv_slen (pc := 26) hS d_law_26 ?_
  refine vv_topi (y := 2) (by decide +kernel) ?_
  refine vv_iconst (pc := 27) (v := 2) d_law_27 rfl ?_
  refine vv_isub (pc := 28) d_law_28 ?_
  refine vv_topi (y := 0) (by decide +kernel) ?_
  refine vv_icmp_gt (pc := 29) (tgt := 524) d_law_29 rfl (fun _ => ?_) (fun hc => absurd (by decide +kernel) hc)
  refine vv_iconst (pc := 524) (v := 1) d_law_524 rfl ?_
  exact vv_zret (pc := 525) d_law_525 rfl rfl
theorem x_P_isLetter_7 {G : cp_G} {h : Nat → cp_E} {z d : Nat} {c : Int32} (hc1 : ¬ c < 65) (hc2 : 90 < c) (hc3 : ¬ c - 65 < 0) (hc4 : 26 ≤ c - 65) (hd : 0 ≤ d) : cp_C G d m_P_isLetter [.int c] h 86 z (some (.int 0)) h 86 (z + 0) := by
  refine cp_C.of rfl (Nat.le_of_ble_eq_true rfl) ?_
  refine vv_iload_n (pc := 0) d_P_isLetter_0 rfl ?_
  refine vv_bipush (pc := 1) (v := 65) d_P_isLetter_1 rfl ?_
  refine vv_icmp_lt (pc := 3) (tgt := 16) d_P_isLetter_3 rfl (fun hc => absurd hc hc1) (fun _ => ?_)
  refine vv_iload_n (pc := 6) d_P_isLetter_6 rfl ?_
  refine vv_bipush (pc := 7) (v := 90) d_P_isLetter_7 rfl ?_
  refine vv_icmp_gt (pc := 9) (tgt := 16) d_P_isLetter_9 rfl (fun _ => ?_) (fun hc => absurd hc2 hc)
  refine vv_iconst (pc := 16) (v := 0) d_P_isLetter_16 rfl ?_
  exact vv_zret (pc := 17) d_P_isLetter_17 rfl rfl
theorem x_P_refuseUnlessFree_5 {G : cp_G} {h : Nat → cp_E} {z d : Nat} {c : Int32} (hc1 : ¬ c < 65) (hc2 : 90 < c) (hc3 : ¬ c - 65 < 0) (hc4 : 26 ≤ c - 65) (hd : 6 ≤ d) : cp_CT G d m_P_refuseUnlessFree [.ref (cp_b G + 0), .int c] h 86 z 12 86 (va_up h 86 cp_junk) 87 (z + 6) := by
  refine cp_CT.of rfl (Nat.le_of_ble_eq_true rfl) ?_
  refine vv_iload_n (pc := 0) d_P_refuseUnlessFree_0 rfl ?_
  refine vv_callS (pc := 1) (As := [.int c]) d_P_refuseUnlessFree_1 (x_P_isLetter_7 (c := c) hc1 hc2 hc3 hc4 (d := d - 1) (by omega)) k_P_isLetter ml_P_200.1 ml_P_200.2 (by omega) (Nat.le_of_ble_eq_true rfl) ?_
  refine vv_if_ne (pc := 4) (tgt := 17) d_P_refuseUnlessFree_4 rfl (fun hc => absurd (by decide +kernel) hc) (fun _ => ?_)
  exact vv_throw (pc := 7) (tx := "not a letter A .. Z") d_P_refuseUnlessFree_7 d_P_refuseUnlessFree_10 d_P_refuseUnlessFree_11 d_P_refuseUnlessFree_13 d_P_refuseUnlessFree_16 cp_ok12 cl_P_176 rfl cp_thr12 (by decide) cp_fit12 (by omega) (Nat.le_of_ble_eq_true rfl) k_P_refuseUnlessFree.1
theorem x_P_program_2 {G : cp_G} {h : Nat → cp_E} {z d : Nat} {g0 : Nat → Value} {c : Int32} (hc1 : ¬ c < 65) (hc2 : 90 < c) (hc3 : ¬ c - 65 < 0) (hc4 : 26 ≤ c - 65) (hd : 7 ≤ d) (H0 : h 0 = .inr (0, g0)) : cp_CT G d m_P_program [.ref (cp_b G + 0), .int c] h 86 z 12 86 (va_up h 86 cp_junk) 87 (z + 6) := by
  refine cp_CT.of rfl (Nat.le_of_ble_eq_true rfl) ?_
  refine vv_aload_n (pc := 0) d_P_program_0 rfl ?_
  refine vv_iload_n (pc := 1) d_P_program_1 rfl ?_
  exact vv_thV (pc := 2) (As := [.int c]) d_P_program_2 (x_P_refuseUnlessFree_5 (c := c) hc1 hc2 hc3 hc4 (d := d - 1) (by omega)) k_P_refuseUnlessFree ml_P_86.1 ml_P_86.2.1 ml_P_86.2.2.1 ml_P_86.2.2.2.1 ml_P_86.2.2.2.2 (by decide) H0 (by omega) (Nat.le_of_ble_eq_true rfl) k_P_program.1
theorem x_L_program_2 {G : cp_G} {h : Nat → cp_E} {z d : Nat} {g0 : Nat → Value} {c : Int32} (hc1 : ¬ c < 65) (hc2 : 90 < c) (hc3 : ¬ c - 65 < 0) (hc4 : 26 ≤ c - 65) (hd : 8 ≤ d) (H0 : h 0 = .inr (0, g0)) : cp_CW G d m_L_program [(0, 9, 12, 13), (0, 9, 15, 15)] [.ref (cp_b G + 0), .int c, .ref (cp_b G + 85)] h 86 z (some (.int 1)) (va_up h 86 cp_junk) 87 (z + 6) := by
  refine cp_CW.of rfl (Nat.le_of_ble_eq_true rfl) ?_
  refine vv_aload_n (pc := 0) d_L_program_0 rfl ?_
  refine vv_iconst (pc := 1) (v := 0) d_L_program_1 rfl ?_
  refine vv_aload_n (pc := 2) d_L_program_2 rfl ?_
  refine vv_iload_n (pc := 3) d_L_program_3 rfl ?_
  refine vv_catch (pc := 4) (As := [.int c]) (hh := [(0, 9, 12, 13), (0, 9, 15, 15)]) (hpc := 12) d_L_program_4 (x_P_program_2 (c := c) hc1 hc2 hc3 hc4 (d := d - 1) (by omega) H0) k_P_program ml_L_17.1 ml_L_17.2.1 ml_L_17.2.2.1 ml_L_17.2.2.2.1 ml_L_17.2.2.2.2 (by decide) H0 (by omega) (Nat.le_of_ble_eq_true rfl) (List.mem_of_getElem? (i := 1) rfl) rfl cl_L_13 cl_L_15 rfl ?_
  refine vv_astore_n (pc := 12) d_L_program_12 cp_isr_r (Nat.le_of_ble_eq_true rfl) ?_
  refine vv_iconst (pc := 13) (v := 1) d_L_program_13 rfl ?_
  exact vv_iret (pc := 14) d_L_program_14 rfl
theorem x_M_isLetter_5 {G : cp_G} {h : Nat → cp_E} {z d : Nat} {c : Int32} (hc1 : ¬ c < 65) (hc2 : 90 < c) (hc3 : ¬ c - 65 < 0) (hc4 : 26 ≤ c - 65) (hd : 0 ≤ d) : cp_C G d m_M_isLetter [.int c] h 87 z (some (.int 0)) h 87 (z + 0) := by
  refine cp_C.of rfl (Nat.le_of_ble_eq_true rfl) ?_
  refine vv_iload_n (pc := 0) d_M_isLetter_0 rfl ?_
  refine vv_bipush (pc := 1) (v := 65) d_M_isLetter_1 rfl ?_
  refine vv_icmp_lt (pc := 3) (tgt := 16) d_M_isLetter_3 rfl (fun hc => absurd hc hc1) (fun _ => ?_)
  refine vv_iload_n (pc := 6) d_M_isLetter_6 rfl ?_
  refine vv_bipush (pc := 7) (v := 90) d_M_isLetter_7 rfl ?_
  refine vv_icmp_gt (pc := 9) (tgt := 16) d_M_isLetter_9 rfl (fun _ => ?_) (fun hc => absurd hc2 hc)
  refine vv_iconst (pc := 16) (v := 0) d_M_isLetter_16 rfl ?_
  exact vv_zret (pc := 17) d_M_isLetter_17 rfl rfl
theorem x_M_mayName_5 {G : cp_G} {h : Nat → cp_E} {z d : Nat} {g26 : Nat → Value} {c : Int32} (hc1 : ¬ c < 65) (hc2 : 90 < c) (hc3 : ¬ c - 65 < 0) (hc4 : 26 ≤ c - 65) (hd : 1 ≤ d) (H26 : h 26 = .inr (11, g26)) : cp_C G d m_M_mayName [.ref (cp_b G + 26), .int c] h 87 z (some (.int 0)) (va_up h 26 (.inr (11, (va_up g26 0 (.int 1))))) 87 (z + 0) := by
  refine cp_C.of rfl (Nat.le_of_ble_eq_true rfl) ?_
  refine vv_aload_n (pc := 0) d_M_mayName_0 rfl ?_
  refine vv_iload_n (pc := 1) d_M_mayName_1 rfl ?_
  refine vv_callS (pc := 2) (As := [.int c]) d_M_mayName_2 (x_M_isLetter_5 (c := c) hc1 hc2 hc3 hc4 (d := d - 1) (by omega)) k_M_isLetter ml_M_215.1 ml_M_215.2 (by omega) (Nat.le_of_ble_eq_true rfl) ?_
  refine vv_if_ne (pc := 5) (tgt := 12) d_M_mayName_5 rfl (fun hc => absurd (by decide +kernel) hc) (fun _ => ?_)
  refine vv_iconst (pc := 8) (v := 1) d_M_mayName_8 rfl ?_
  refine vv_goto (pc := 9) (tgt := 29) d_M_mayName_9 rfl ?_
  refine vv_putf (pc := 29) d_M_mayName_29 fl_M_184 (by decide) H26 rfl rfl rfl ?_
  refine vv_aload_n (pc := 32) d_M_mayName_32 rfl ?_
  refine vv_getf (pc := 33) d_M_mayName_33 fl_M_184 (by decide) rfl rfl ?_
  refine vv_if_ne (pc := 36) (tgt := 43) d_M_mayName_36 rfl (fun _ => ?_) (fun hc => absurd hc (by decide +kernel))
  refine vv_iconst (pc := 43) (v := 0) d_M_mayName_43 rfl ?_
  exact vv_zret (pc := 44) d_M_mayName_44 rfl rfl
theorem x_M_program_2 {G : cp_G} {h : Nat → cp_E} {z d : Nat} {g26 : Nat → Value} {c : Int32} (hc1 : ¬ c < 65) (hc2 : 90 < c) (hc3 : ¬ c - 65 < 0) (hc4 : 26 ≤ c - 65) (hd : 2 ≤ d) (H26 : h 26 = .inr (11, g26)) : cp_C G d m_M_program [.ref (cp_b G + 26), .int c] h 87 z (some (.int 0)) (va_up h 26 (.inr (11, (va_up g26 0 (.int 1))))) 87 (z + 0) := by
  refine cp_C.of rfl (Nat.le_of_ble_eq_true rfl) ?_
  refine vv_aload_n (pc := 0) d_M_program_0 rfl ?_
  refine vv_iload_n (pc := 1) d_M_program_1 rfl ?_
  refine vv_callV (pc := 2) (As := [.int c]) d_M_program_2 (x_M_mayName_5 (c := c) hc1 hc2 hc3 hc4 (d := d - 1) (by omega) H26) k_M_mayName ml_M_425.1 ml_M_425.2.1 ml_M_425.2.2.1 ml_M_425.2.2.2.1 ml_M_425.2.2.2.2 (by decide) H26 (by omega) (Nat.le_of_ble_eq_true rfl) ?_
  refine vv_if_ne (pc := 5) (tgt := 10) d_M_program_5 rfl (fun hc => absurd (by decide +kernel) hc) (fun _ => ?_)
  refine vv_iconst (pc := 8) (v := 0) d_M_program_8 rfl ?_
  exact vv_iret (pc := 9) d_M_program_9 rfl
theorem x_M_thrown_6 {G : cp_G} {h : Nat → cp_E} {z d : Nat} {g26 : Nat → Value} {c : Int32} (hc1 : ¬ c < 65) (hc2 : 90 < c) (hc3 : ¬ c - 65 < 0) (hc4 : 26 ≤ c - 65) (hd : 0 ≤ d) (H26 : h 26 = .inr (11, g26)) (E26_0 : g26 0 = .int 1) : cp_C G d m_M_thrown [.ref (cp_b G + 26)] h 87 z (some (.int 1)) h 87 (z + 0) := by
  refine cp_C.of rfl (Nat.le_of_ble_eq_true rfl) ?_
  refine vv_aload_n (pc := 0) d_M_thrown_0 rfl ?_
  refine vv_getf (pc := 1) d_M_thrown_1 fl_M_184 (by decide) H26 E26_0 ?_
  exact vv_iret (pc := 4) d_M_thrown_4 rfl
theorem p_law_3_hi {G : cp_G} {h : Nat → cp_E} {z d bb : Nat} {xs : Nat → Int32} {g0 g26 : Nat → Value} {c : Int32} (hc1 : ¬ c < 65) (hc2 : 90 < c) (hc3 : ¬ c - 65 < 0) (hc4 : 26 ≤ c - 65) (hS : cp_scr G bb 2 xs) (hcx : ((xs 1).toUInt32 % 65536).toInt32 = c) (hd : 9 ≤ d) (H0 : h 0 = .inr (0, g0)) (H26 : h 26 = .inr (11, g26)) : cp_V G m_law d 0 0 (.inl (some (.int 1))) (va_up (va_up h 86 cp_junk) 26 (.inr (11, (va_up g26 0 (.int 1))))) 87 (z + 6) 202 [(4, .int 0), (3, .ref (cp_b G + 85)), (2, .ref (cp_b G + 26)), (1, .ref (cp_b G + 0)), (0, .ref bb)] [] h 86 z := by
  refine vv_aload_n (pc := 202) d_law_202 rfl ?_
  refine vv_aload_n (pc := 203) d_law_203 rfl ?_
  refine vv_iload (pc := 204) d_law_204 rfl ?_
  refine vv_iconst (pc := 206) (v := 1) d_law_206 rfl ?_
  refine vv_iadd (pc := 207) d_law_207 ?_
  refine vv_topi (y := 1) (by decide +kernel) ?_
  refine vv_sld (pc := 208) hS d_law_208 (by unfold vp_in; decide +kernel) ?_
  refine vv_topi (y := xs 1) (congrArg xs (by decide +kernel)) ?_
  refine vv_i2c (pc := 209) d_law_209 ?_
  refine vv_topi (y := c) hcx ?_
  refine vv_aload_n (pc := 210) d_law_210 rfl ?_
  refine vv_callSW (pc := 211) (As := [.ref (cp_b G + 0), .int c, .ref (cp_b G + 85)]) (hh := [(0, 9, 12, 13), (0, 9, 15, 15)]) d_law_211 (x_L_program_2 (c := c) hc1 hc2 hc3 hc4 (d := d - 1) (by omega) H0) cw_L_program ci_L_program (by decide) ⟨by decide, by decide⟩ cn_L_program ml_L_54.1 ml_L_54.2 (by omega) (Nat.le_of_ble_eq_true rfl) ?_
  refine vv_istore (pc := 214) d_law_214 (Nat.le_of_ble_eq_true rfl) ?_
  refine vv_aload_n (pc := 216) d_law_216 rfl ?_
  refine vv_aload_n (pc := 217) d_law_217 rfl ?_
  refine vv_iload (pc := 218) d_law_218 rfl ?_
  refine vv_iconst (pc := 220) (v := 1) d_law_220 rfl ?_
  refine vv_iadd (pc := 221) d_law_221 ?_
  refine vv_topi (y := 1) (by decide +kernel) ?_
  refine vv_sld (pc := 222) hS d_law_222 (by unfold vp_in; decide +kernel) ?_
  refine vv_topi (y := xs 1) (congrArg xs (by decide +kernel)) ?_
  refine vv_i2c (pc := 223) d_law_223 ?_
  refine vv_topi (y := c) hcx ?_
  refine vv_callV (pc := 224) (As := [.int c]) d_law_224 (x_M_program_2 (c := c) hc1 hc2 hc3 hc4 (d := d - 1) (by omega) H26) k_M_program ml_L_56.1 ml_L_56.2.1 ml_L_56.2.2.1 ml_L_56.2.2.2.1 ml_L_56.2.2.2.2 (by decide) H26 (by omega) (Nat.le_of_ble_eq_true rfl) ?_
  refine vv_istore (pc := 227) d_law_227 (Nat.le_of_ble_eq_true rfl) ?_
  refine vv_aload_n (pc := 229) d_law_229 rfl ?_
  refine vv_callV (pc := 230) (As := []) d_law_230 (x_M_thrown_6 (c := c) hc1 hc2 hc3 hc4 (d := d - 1) (by omega) rfl rfl) k_M_thrown ml_L_51.1 ml_L_51.2.1 ml_L_51.2.2.1 ml_L_51.2.2.2.1 ml_L_51.2.2.2.2 (by decide) rfl (by omega) (Nat.le_of_ble_eq_true rfl) ?_
  refine vv_iload (pc := 233) d_law_233 rfl ?_
  refine vv_icmp_eq (pc := 235) (tgt := 240) d_law_235 rfl (fun _ => ?_) (fun hc => absurd (by decide +kernel) hc)
  refine vv_iload (pc := 240) d_law_240 rfl ?_
  refine vv_if_ne (pc := 242) (tgt := 257) d_law_242 rfl (fun _ => ?_) (fun hc => absurd hc (by decide +kernel))
  refine vv_goto (pc := 257) (tgt := 518) d_law_257 rfl ?_
  refine vv_iinc (pc := 518) (v := 2) d_law_518 rfl (by decide +kernel) (Nat.le_of_ble_eq_true rfl) ?_
  refine vv_goto (pc := 521) (tgt := 23) d_law_521 rfl ?_
  refine vv_iload (pc := 23) d_law_23 rfl ?_
  refine vv_aload_n (pc := 25) d_law_25 rfl ?_
  refine vv_slen (pc := 26) hS d_law_26 ?_
  refine vv_topi (y := 2) (by decide +kernel) ?_
  refine vv_iconst (pc := 27) (v := 2) d_law_27 rfl ?_
  refine vv_isub (pc := 28) d_law_28 ?_
  refine vv_topi (y := 0) (by decide +kernel) ?_
  refine vv_icmp_gt (pc := 29) (tgt := 524) d_law_29 rfl (fun _ => ?_) (fun hc => absurd (by decide +kernel) hc)
  refine vv_iconst (pc := 524) (v := 1) d_law_524 rfl ?_
  exact vv_zret (pc := 525) d_law_525 rfl rfl
theorem x_P_isLetter_8 {G : cp_G} {h : Nat → cp_E} {z d : Nat} {c : Int32} (hc1 : ¬ c < 65) (hc2 : ¬ 90 < c) (hc3 : ¬ c - 65 < 0) (hc4 : ¬ 26 ≤ c - 65) (hc5 : vp_in (c - 65) 26) (hd : 0 ≤ d) : cp_C G d m_P_isLetter [.int c] h 86 z (some (.int 1)) h 86 (z + 0) := by
  refine cp_C.of rfl (Nat.le_of_ble_eq_true rfl) ?_
  refine vv_iload_n (pc := 0) d_P_isLetter_0 rfl ?_
  refine vv_bipush (pc := 1) (v := 65) d_P_isLetter_1 rfl ?_
  refine vv_icmp_lt (pc := 3) (tgt := 16) d_P_isLetter_3 rfl (fun hc => absurd hc hc1) (fun _ => ?_)
  refine vv_iload_n (pc := 6) d_P_isLetter_6 rfl ?_
  refine vv_bipush (pc := 7) (v := 90) d_P_isLetter_7 rfl ?_
  refine vv_icmp_gt (pc := 9) (tgt := 16) d_P_isLetter_9 rfl (fun hc => absurd hc hc2) (fun _ => ?_)
  refine vv_iconst (pc := 12) (v := 1) d_P_isLetter_12 rfl ?_
  refine vv_goto (pc := 13) (tgt := 17) d_P_isLetter_13 rfl ?_
  exact vv_zret (pc := 17) d_P_isLetter_17 rfl rfl
theorem x_D_find_2 {G : cp_G} {h : Nat → cp_E} {z d : Nat} {g3 : Nat → Value} {c : Int32} (hc1 : ¬ c < 65) (hc2 : ¬ 90 < c) (hc3 : ¬ c - 65 < 0) (hc4 : ¬ 26 ≤ c - 65) (hc5 : vp_in (c - 65) 26) (hd : 0 ≤ d) (H3 : h 3 = .inr (1, g3)) (E3_0 : g3 0 = .ref (cp_b G + 4)) (H4 : h 4 = .inl (cp_cE G, 26, .inr (.inr (.inr (.inr (fun _ => none)))))) : cp_C G d m_D_find [.ref (cp_b G + 3), .int c] h 86 z (some (.null)) h 86 (z + 0) := by
  refine cp_C.of rfl (Nat.le_of_ble_eq_true rfl) ?_
  refine vv_iload_n (pc := 0) d_D_find_0 rfl ?_
  refine vv_bipush (pc := 1) (v := 65) d_D_find_1 rfl ?_
  refine vv_isub (pc := 3) d_D_find_3 ?_
  refine vv_istore_n (pc := 4) d_D_find_4 (Nat.le_of_ble_eq_true rfl) ?_
  refine vv_iload_n (pc := 5) d_D_find_5 rfl ?_
  refine vv_if_lt (pc := 6) (tgt := 24) d_D_find_6 rfl (fun hc => absurd hc hc3) (fun _ => ?_)
  refine vv_iload_n (pc := 9) d_D_find_9 rfl ?_
  refine vv_bipush (pc := 10) (v := 26) d_D_find_10 rfl ?_
  refine vv_icmp_ge (pc := 12) (tgt := 24) d_D_find_12 rfl (fun hc => absurd hc hc4) (fun _ => ?_)
  refine vv_aload_n (pc := 15) d_D_find_15 rfl ?_
  refine vv_getf (pc := 16) d_D_find_16 fl_D_11 (by decide) H3 E3_0 ?_
  refine vv_iload_n (pc := 19) d_D_find_19 rfl ?_
  refine vv_aald (pc := 20) d_D_find_20 (by decide) H4 hc5 ?_
  refine vv_topv (y := .null) rfl ?_
  refine vv_goto (pc := 21) (tgt := 25) d_D_find_21 rfl ?_
  exact vv_aret (pc := 25) d_D_find_25 rfl (Or.inl ⟨_, rfl⟩) cp_isr_n
theorem x_P_refuseUnlessFree_6 {G : cp_G} {h : Nat → cp_E} {z d : Nat} {g0 g3 : Nat → Value} {c : Int32} (hc1 : ¬ c < 65) (hc2 : ¬ 90 < c) (hc3 : ¬ c - 65 < 0) (hc4 : ¬ 26 ≤ c - 65) (hc5 : vp_in (c - 65) 26) (hd : 1 ≤ d) (H0 : h 0 = .inr (0, g0)) (E0_4 : g0 4 = .ref (cp_b G + 3)) (H3 : h 3 = .inr (1, g3)) (E3_0 : g3 0 = .ref (cp_b G + 4)) (H4 : h 4 = .inl (cp_cE G, 26, .inr (.inr (.inr (.inr (fun _ => none)))))) : cp_C G d m_P_refuseUnlessFree [.ref (cp_b G + 0), .int c] h 86 z none h 86 (z + 0) := by
  refine cp_C.of rfl (Nat.le_of_ble_eq_true rfl) ?_
  refine vv_iload_n (pc := 0) d_P_refuseUnlessFree_0 rfl ?_
  refine vv_callS (pc := 1) (As := [.int c]) d_P_refuseUnlessFree_1 (x_P_isLetter_8 (c := c) hc1 hc2 hc3 hc4 hc5 (d := d - 1) (by omega)) k_P_isLetter ml_P_200.1 ml_P_200.2 (by omega) (Nat.le_of_ble_eq_true rfl) ?_
  refine vv_if_ne (pc := 4) (tgt := 17) d_P_refuseUnlessFree_4 rfl (fun _ => ?_) (fun hc => absurd hc (by decide +kernel))
  refine vv_aload_n (pc := 17) d_P_refuseUnlessFree_17 rfl ?_
  refine vv_getf (pc := 18) d_P_refuseUnlessFree_18 fl_P_26 (by decide) H0 E0_4 ?_
  refine vv_iload_n (pc := 21) d_P_refuseUnlessFree_21 rfl ?_
  refine vv_callV (pc := 22) (As := [.int c]) d_P_refuseUnlessFree_22 (x_D_find_2 (c := c) hc1 hc2 hc3 hc4 hc5 (d := d - 1) (by omega) H3 E3_0 H4) k_D_find ml_P_169.1 ml_P_169.2.1 ml_P_169.2.2.1 ml_P_169.2.2.2.1 ml_P_169.2.2.2.2 (by decide) H3 (by omega) (Nat.le_of_ble_eq_true rfl) ?_
  refine vv_ifnullN (pc := 25) (tgt := 38) d_P_refuseUnlessFree_25 rfl ?_
  exact vv_vret (pc := 38) d_P_refuseUnlessFree_38 rfl
theorem x_Q_open_3 {G : cp_G} {h : Nat → cp_E} {z d : Nat} {g21 : Nat → Value} {f1 : Nat → Int32} {c : Int32} (hc1 : ¬ c < 65) (hc2 : ¬ 90 < c) (hc3 : ¬ c - 65 < 0) (hc4 : ¬ 26 ≤ c - 65) (hc5 : vp_in (c - 65) 26) (hd : 1 ≤ d) (H21 : h 21 = .inr (5, g21)) (H1 : h 1 = .inl (cp_cC G, 80, .inl f1)) : cp_C G d m_Q_open [.ref (cp_b G + 21), .ref (cp_b G + 1), .int 0] h 86 z none (va_up (va_up (va_up h 21 (.inr (5, (va_up g21 0 (.ref (cp_b G + 1)))))) 21 (.inr (5, (va_up (va_up g21 0 (.ref (cp_b G + 1))) 1 (.int 0))))) 21 (.inr (5, (va_up (va_up (va_up g21 0 (.ref (cp_b G + 1))) 1 (.int 0)) 2 (.int 0))))) 86 (z + 0) := by
  refine cp_C.of rfl (Nat.le_of_ble_eq_true rfl) ?_
  refine vv_aload_n (pc := 0) d_Q_open_0 rfl ?_
  refine vv_aload_n (pc := 1) d_Q_open_1 rfl ?_
  refine vv_putf (pc := 2) d_Q_open_2 fl_Q_9 (by decide) H21 rfl rfl rfl ?_
  refine vv_aload_n (pc := 5) d_Q_open_5 rfl ?_
  refine vv_iload_n (pc := 6) d_Q_open_6 rfl ?_
  refine vv_aload_n (pc := 7) d_Q_open_7 rfl ?_
  refine vv_alenC (pc := 8) (v := 80) d_Q_open_8 (by decide) H1 rfl ?_
  refine vv_mmin (pc := 9) d_Q_open_9 ml_Q_22.1 (by omega) (Nat.le_of_ble_eq_true rfl) ?_
  refine vv_putf (pc := 12) d_Q_open_12 fl_Q_15 (by decide) rfl rfl rfl rfl ?_
  refine vv_aload_n (pc := 15) d_Q_open_15 rfl ?_
  refine vv_iconst (pc := 16) (v := 0) d_Q_open_16 rfl ?_
  refine vv_putf (pc := 17) d_Q_open_17 fl_Q_19 (by decide) rfl rfl rfl rfl ?_
  exact vv_vret (pc := 20) d_Q_open_20 rfl
theorem x_R_cut_9 {G : cp_G} {h : Nat → cp_E} {z d : Nat} {g7 : Nat → Value} {c : Int32} (hc1 : ¬ c < 65) (hc2 : ¬ 90 < c) (hc3 : ¬ c - 65 < 0) (hc4 : ¬ 26 ≤ c - 65) (hc5 : vp_in (c - 65) 26) (hd : 0 ≤ d) (H7 : h 7 = .inr (3, g7)) (E7_1 : g7 1 = .int 0) : cp_C G d m_R_cut [.ref (cp_b G + 7), .int 0] h 86 z none h 86 (z + 0) := by
  refine cp_C.of rfl (Nat.le_of_ble_eq_true rfl) ?_
  refine vv_iload_n (pc := 0) d_R_cut_0 rfl ?_
  refine vv_if_lt (pc := 1) (tgt := 17) d_R_cut_1 rfl (fun hc => absurd hc (by decide +kernel)) (fun _ => ?_)
  refine vv_iload_n (pc := 4) d_R_cut_4 rfl ?_
  refine vv_aload_n (pc := 5) d_R_cut_5 rfl ?_
  refine vv_getf (pc := 6) d_R_cut_6 fl_R_21 (by decide) H7 E7_1 ?_
  refine vv_icmp_ge (pc := 9) (tgt := 17) d_R_cut_9 rfl (fun _ => ?_) (fun hc => absurd (by decide +kernel) hc)
  exact vv_vret (pc := 17) d_R_cut_17 rfl
theorem x_V_clear_3 {G : cp_G} {h : Nat → cp_E} {z d : Nat} {g6 g7 : Nat → Value} {c : Int32} (hc1 : ¬ c < 65) (hc2 : ¬ 90 < c) (hc3 : ¬ c - 65 < 0) (hc4 : ¬ 26 ≤ c - 65) (hc5 : vp_in (c - 65) 26) (hd : 1 ≤ d) (H6 : h 6 = .inr (2, g6)) (E6_0 : g6 0 = .ref (cp_b G + 7)) (H7 : h 7 = .inr (3, g7)) (E7_1 : g7 1 = .int 0) : cp_C G d m_V_clear [.ref (cp_b G + 6)] h 86 z none h 86 (z + 0) := by
  refine cp_C.of rfl (Nat.le_of_ble_eq_true rfl) ?_
  refine vv_aload_n (pc := 0) d_V_clear_0 rfl ?_
  refine vv_getf (pc := 1) d_V_clear_1 fl_V_14 (by decide) H6 E6_0 ?_
  refine vv_iconst (pc := 4) (v := 0) d_V_clear_4 rfl ?_
  refine vv_callV (pc := 5) (As := [.int 0]) d_V_clear_5 (x_R_cut_9 (c := c) hc1 hc2 hc3 hc4 hc5 (d := d - 1) (by omega) H7 E7_1) k_R_cut ml_V_34.1 ml_V_34.2.1 ml_V_34.2.2.1 ml_V_34.2.2.2.1 ml_V_34.2.2.2.2 (by decide) H7 (by omega) (Nat.le_of_ble_eq_true rfl) ?_
  exact vv_vret (pc := 8) d_V_clear_8 rfl
theorem x_R_cut_10 {G : cp_G} {h : Nat → cp_E} {z d : Nat} {g15 : Nat → Value} {c : Int32} (hc1 : ¬ c < 65) (hc2 : ¬ 90 < c) (hc3 : ¬ c - 65 < 0) (hc4 : ¬ 26 ≤ c - 65) (hc5 : vp_in (c - 65) 26) (hd : 0 ≤ d) (H15 : h 15 = .inr (3, g15)) (E15_1 : g15 1 = .int 0) : cp_C G d m_R_cut [.ref (cp_b G + 15), .int 0] h 86 z none h 86 (z + 0) := by
  refine cp_C.of rfl (Nat.le_of_ble_eq_true rfl) ?_
  refine vv_iload_n (pc := 0) d_R_cut_0 rfl ?_
  refine vv_if_lt (pc := 1) (tgt := 17) d_R_cut_1 rfl (fun hc => absurd hc (by decide +kernel)) (fun _ => ?_)
  refine vv_iload_n (pc := 4) d_R_cut_4 rfl ?_
  refine vv_aload_n (pc := 5) d_R_cut_5 rfl ?_
  refine vv_getf (pc := 6) d_R_cut_6 fl_R_21 (by decide) H15 E15_1 ?_
  refine vv_icmp_ge (pc := 9) (tgt := 17) d_R_cut_9 rfl (fun _ => ?_) (fun hc => absurd (by decide +kernel) hc)
  exact vv_vret (pc := 17) d_R_cut_17 rfl
theorem x_R_cut_11 {G : cp_G} {h : Nat → cp_E} {z d : Nat} {g17 : Nat → Value} {c : Int32} (hc1 : ¬ c < 65) (hc2 : ¬ 90 < c) (hc3 : ¬ c - 65 < 0) (hc4 : ¬ 26 ≤ c - 65) (hc5 : vp_in (c - 65) 26) (hd : 0 ≤ d) (H17 : h 17 = .inr (3, g17)) (E17_1 : g17 1 = .int 0) : cp_C G d m_R_cut [.ref (cp_b G + 17), .int 0] h 86 z none h 86 (z + 0) := by
  refine cp_C.of rfl (Nat.le_of_ble_eq_true rfl) ?_
  refine vv_iload_n (pc := 0) d_R_cut_0 rfl ?_
  refine vv_if_lt (pc := 1) (tgt := 17) d_R_cut_1 rfl (fun hc => absurd hc (by decide +kernel)) (fun _ => ?_)
  refine vv_iload_n (pc := 4) d_R_cut_4 rfl ?_
  refine vv_aload_n (pc := 5) d_R_cut_5 rfl ?_
  refine vv_getf (pc := 6) d_R_cut_6 fl_R_21 (by decide) H17 E17_1 ?_
  refine vv_icmp_ge (pc := 9) (tgt := 17) d_R_cut_9 rfl (fun _ => ?_) (fun hc => absurd (by decide +kernel) hc)
  exact vv_vret (pc := 17) d_R_cut_17 rfl
theorem x_R_cut_12 {G : cp_G} {h : Nat → cp_E} {z d : Nat} {g19 : Nat → Value} {c : Int32} (hc1 : ¬ c < 65) (hc2 : ¬ 90 < c) (hc3 : ¬ c - 65 < 0) (hc4 : ¬ 26 ≤ c - 65) (hc5 : vp_in (c - 65) 26) (hd : 0 ≤ d) (H19 : h 19 = .inr (3, g19)) (E19_1 : g19 1 = .int 0) : cp_C G d m_R_cut [.ref (cp_b G + 19), .int 0] h 86 z none h 86 (z + 0) := by
  refine cp_C.of rfl (Nat.le_of_ble_eq_true rfl) ?_
  refine vv_iload_n (pc := 0) d_R_cut_0 rfl ?_
  refine vv_if_lt (pc := 1) (tgt := 17) d_R_cut_1 rfl (fun hc => absurd hc (by decide +kernel)) (fun _ => ?_)
  refine vv_iload_n (pc := 4) d_R_cut_4 rfl ?_
  refine vv_aload_n (pc := 5) d_R_cut_5 rfl ?_
  refine vv_getf (pc := 6) d_R_cut_6 fl_R_21 (by decide) H19 E19_1 ?_
  refine vv_icmp_ge (pc := 9) (tgt := 17) d_R_cut_9 rfl (fun _ => ?_) (fun hc => absurd (by decide +kernel) hc)
  exact vv_vret (pc := 17) d_R_cut_17 rfl
theorem x_B_cut_3 {G : cp_G} {h : Nat → cp_E} {z d : Nat} {g14 g15 g17 g19 : Nat → Value} {c : Int32} (hc1 : ¬ c < 65) (hc2 : ¬ 90 < c) (hc3 : ¬ c - 65 < 0) (hc4 : ¬ 26 ≤ c - 65) (hc5 : vp_in (c - 65) 26) (hd : 1 ≤ d) (H14 : h 14 = .inr (4, g14)) (E14_0 : g14 0 = .ref (cp_b G + 15)) (H15 : h 15 = .inr (3, g15)) (E15_1 : g15 1 = .int 0) (E14_1 : g14 1 = .ref (cp_b G + 17)) (H17 : h 17 = .inr (3, g17)) (E17_1 : g17 1 = .int 0) (E14_2 : g14 2 = .ref (cp_b G + 19)) (H19 : h 19 = .inr (3, g19)) (E19_1 : g19 1 = .int 0) : cp_C G d m_B_cut [.ref (cp_b G + 14), .int 0] h 86 z none h 86 (z + 0) := by
  refine cp_C.of rfl (Nat.le_of_ble_eq_true rfl) ?_
  refine vv_aload_n (pc := 0) d_B_cut_0 rfl ?_
  refine vv_getf (pc := 1) d_B_cut_1 fl_B_14 (by decide) H14 E14_0 ?_
  refine vv_iload_n (pc := 4) d_B_cut_4 rfl ?_
  refine vv_callV (pc := 5) (As := [.int 0]) d_B_cut_5 (x_R_cut_10 (c := c) hc1 hc2 hc3 hc4 hc5 (d := d - 1) (by omega) H15 E15_1) k_R_cut ml_B_40.1 ml_B_40.2.1 ml_B_40.2.2.1 ml_B_40.2.2.2.1 ml_B_40.2.2.2.2 (by decide) H15 (by omega) (Nat.le_of_ble_eq_true rfl) ?_
  refine vv_aload_n (pc := 8) d_B_cut_8 rfl ?_
  refine vv_getf (pc := 9) d_B_cut_9 fl_B_20 (by decide) H14 E14_1 ?_
  refine vv_iload_n (pc := 12) d_B_cut_12 rfl ?_
  refine vv_callV (pc := 13) (As := [.int 0]) d_B_cut_13 (x_R_cut_11 (c := c) hc1 hc2 hc3 hc4 hc5 (d := d - 1) (by omega) H17 E17_1) k_R_cut ml_B_40.1 ml_B_40.2.1 ml_B_40.2.2.1 ml_B_40.2.2.2.1 ml_B_40.2.2.2.2 (by decide) H17 (by omega) (Nat.le_of_ble_eq_true rfl) ?_
  refine vv_aload_n (pc := 16) d_B_cut_16 rfl ?_
  refine vv_getf (pc := 17) d_B_cut_17 fl_B_23 (by decide) H14 E14_2 ?_
  refine vv_iload_n (pc := 20) d_B_cut_20 rfl ?_
  refine vv_callV (pc := 21) (As := [.int 0]) d_B_cut_21 (x_R_cut_12 (c := c) hc1 hc2 hc3 hc4 hc5 (d := d - 1) (by omega) H19 E19_1) k_R_cut ml_B_40.1 ml_B_40.2.1 ml_B_40.2.2.1 ml_B_40.2.2.2.1 ml_B_40.2.2.2.2 (by decide) H19 (by omega) (Nat.le_of_ble_eq_true rfl) ?_
  exact vv_vret (pc := 24) d_B_cut_24 rfl
theorem x_P_openText_3 {G : cp_G} {h : Nat → cp_E} {z d : Nat} {g0 g21 g6 g7 g14 g15 g17 g19 : Nat → Value} {f1 : Nat → Int32} {c : Int32} (hc1 : ¬ c < 65) (hc2 : ¬ 90 < c) (hc3 : ¬ c - 65 < 0) (hc4 : ¬ 26 ≤ c - 65) (hc5 : vp_in (c - 65) 26) (hd : 2 ≤ d) (H0 : h 0 = .inr (0, g0)) (E0_7 : g0 7 = .ref (cp_b G + 21)) (E0_0 : g0 0 = .ref (cp_b G + 1)) (E0_1 : g0 1 = .int 0) (H21 : h 21 = .inr (5, g21)) (H1 : h 1 = .inl (cp_cC G, 80, .inl f1)) (E0_5 : g0 5 = .ref (cp_b G + 6)) (H6 : h 6 = .inr (2, g6)) (E6_0 : g6 0 = .ref (cp_b G + 7)) (H7 : h 7 = .inr (3, g7)) (E7_1 : g7 1 = .int 0) (E0_6 : g0 6 = .ref (cp_b G + 14)) (H14 : h 14 = .inr (4, g14)) (E14_0 : g14 0 = .ref (cp_b G + 15)) (H15 : h 15 = .inr (3, g15)) (E15_1 : g15 1 = .int 0) (E14_1 : g14 1 = .ref (cp_b G + 17)) (H17 : h 17 = .inr (3, g17)) (E17_1 : g17 1 = .int 0) (E14_2 : g14 2 = .ref (cp_b G + 19)) (H19 : h 19 = .inr (3, g19)) (E19_1 : g19 1 = .int 0) : cp_C G d m_P_openText [.ref (cp_b G + 0)] h 86 z none (va_up (va_up (va_up (va_up h 21 (.inr (5, (va_up g21 0 (.ref (cp_b G + 1)))))) 21 (.inr (5, (va_up (va_up g21 0 (.ref (cp_b G + 1))) 1 (.int 0))))) 21 (.inr (5, (va_up (va_up (va_up g21 0 (.ref (cp_b G + 1))) 1 (.int 0)) 2 (.int 0))))) 0 (.inr (0, (va_up g0 1 (.int 0))))) 86 (z + 0) := by
  refine cp_C.of rfl (Nat.le_of_ble_eq_true rfl) ?_
  refine vv_aload_n (pc := 0) d_P_openText_0 rfl ?_
  refine vv_getf (pc := 1) d_P_openText_1 fl_P_47 (by decide) H0 E0_7 ?_
  refine vv_aload_n (pc := 4) d_P_openText_4 rfl ?_
  refine vv_getf (pc := 5) d_P_openText_5 fl_P_9 (by decide) H0 E0_0 ?_
  refine vv_aload_n (pc := 8) d_P_openText_8 rfl ?_
  refine vv_getf (pc := 9) d_P_openText_9 fl_P_13 (by decide) H0 E0_1 ?_
  refine vv_callV (pc := 12) (As := [.ref (cp_b G + 1), .int 0]) d_P_openText_12 (x_Q_open_3 (c := c) hc1 hc2 hc3 hc4 hc5 (d := d - 1) (by omega) H21 H1) k_Q_open ml_P_208.1 ml_P_208.2.1 ml_P_208.2.2.1 ml_P_208.2.2.2.1 ml_P_208.2.2.2.2 (by decide) H21 (by omega) (Nat.le_of_ble_eq_true rfl) ?_
  refine vv_aload_n (pc := 15) d_P_openText_15 rfl ?_
  refine vv_iconst (pc := 16) (v := 0) d_P_openText_16 rfl ?_
  refine vv_putf (pc := 17) d_P_openText_17 fl_P_13 (by decide) H0 rfl rfl rfl ?_
  refine vv_aload_n (pc := 20) d_P_openText_20 rfl ?_
  refine vv_getf (pc := 21) d_P_openText_21 fl_P_33 (by decide) rfl E0_5 ?_
  refine vv_callV (pc := 24) (As := []) d_P_openText_24 (x_V_clear_3 (c := c) hc1 hc2 hc3 hc4 hc5 (d := d - 1) (by omega) H6 E6_0 H7 E7_1) k_V_clear ml_P_212.1 ml_P_212.2.1 ml_P_212.2.2.1 ml_P_212.2.2.2.1 ml_P_212.2.2.2.2 (by decide) H6 (by omega) (Nat.le_of_ble_eq_true rfl) ?_
  refine vv_aload_n (pc := 27) d_P_openText_27 rfl ?_
  refine vv_getf (pc := 28) d_P_openText_28 fl_P_40 (by decide) rfl E0_6 ?_
  refine vv_iconst (pc := 31) (v := 0) d_P_openText_31 rfl ?_
  refine vv_callV (pc := 32) (As := [.int 0]) d_P_openText_32 (x_B_cut_3 (c := c) hc1 hc2 hc3 hc4 hc5 (d := d - 1) (by omega) H14 E14_0 H15 E15_1 E14_1 H17 E17_1 E14_2 H19 E19_1) k_B_cut ml_P_215.1 ml_P_215.2.1 ml_P_215.2.2.1 ml_P_215.2.2.2.1 ml_P_215.2.2.2.2 (by decide) H14 (by omega) (Nat.le_of_ble_eq_true rfl) ?_
  exact vv_vret (pc := 35) d_P_openText_35 rfl
theorem x_N_init_2 {G : cp_G} {h : Nat → cp_E} {z d : Nat} {g86 : Nat → Value} {c : Int32} (hc1 : ¬ c < 65) (hc2 : ¬ 90 < c) (hc3 : ¬ c - 65 < 0) (hc4 : ¬ 26 ≤ c - 65) (hc5 : vp_in (c - 65) 26) (hd : 1 ≤ d) (H86 : h 86 = .inr (9, g86)) : cp_C G d m_N_init [.ref (cp_b G + 86), .int 17, .int 0, .int 0] h 87 z none (va_up (va_up (va_up (va_up (va_up (va_up (va_up h 86 (.inr (9, (va_up g86 0 (.int 17))))) 86 (.inr (9, (va_up (va_up g86 0 (.int 17)) 1 (.int 0))))) 86 (.inr (9, (va_up (va_up (va_up g86 0 (.int 17)) 1 (.int 0)) 2 (.int 0))))) 86 (.inr (9, (va_up (va_up (va_up (va_up g86 0 (.int 17)) 1 (.int 0)) 2 (.int 0)) 3 (.int 0))))) 86 (.inr (9, (va_up (va_up (va_up (va_up (va_up g86 0 (.int 17)) 1 (.int 0)) 2 (.int 0)) 3 (.int 0)) 4 (.null))))) 86 (.inr (9, (va_up (va_up (va_up (va_up (va_up (va_up g86 0 (.int 17)) 1 (.int 0)) 2 (.int 0)) 3 (.int 0)) 4 (.null)) 5 (.null))))) 86 (.inr (9, (va_up (va_up (va_up (va_up (va_up (va_up (va_up g86 0 (.int 17)) 1 (.int 0)) 2 (.int 0)) 3 (.int 0)) 4 (.null)) 5 (.null)) 6 (.null))))) 87 (z + 0) := by
  refine cp_C.of rfl (Nat.le_of_ble_eq_true rfl) ?_
  refine vv_aload_n (pc := 0) d_N_init_0 rfl ?_
  refine vv_obj (pc := 1) d_N_init_1 ol_N_1 cp_oi cp_oc (by omega) (Nat.le_of_ble_eq_true rfl) ?_
  refine vv_aload_n (pc := 4) d_N_init_4 rfl ?_
  refine vv_iload_n (pc := 5) d_N_init_5 rfl ?_
  refine vv_putF (pc := 6) d_N_init_6 fl_N_7 (by decide) H86 rfl rfl rfl rfl rfl ?_
  refine vv_aload_n (pc := 9) d_N_init_9 rfl ?_
  refine vv_iload_n (pc := 10) d_N_init_10 rfl ?_
  refine vv_putF (pc := 11) d_N_init_11 fl_N_13 (by decide) rfl rfl rfl rfl rfl rfl ?_
  refine vv_aload_n (pc := 14) d_N_init_14 rfl ?_
  refine vv_iload_n (pc := 15) d_N_init_15 rfl ?_
  refine vv_putF (pc := 16) d_N_init_16 fl_N_16 (by decide) rfl rfl rfl rfl rfl rfl ?_
  refine vv_aload_n (pc := 19) d_N_init_19 rfl ?_
  refine vv_iconst (pc := 20) (v := 0) d_N_init_20 rfl ?_
  refine vv_putf (pc := 21) d_N_init_21 fl_N_19 (by decide) rfl rfl rfl rfl ?_
  refine vv_aload_n (pc := 24) d_N_init_24 rfl ?_
  refine vv_null (pc := 25) d_N_init_25 ?_
  refine vv_putf (pc := 26) d_N_init_26 fl_N_22 (by decide) rfl rfl rfl rfl ?_
  refine vv_aload_n (pc := 29) d_N_init_29 rfl ?_
  refine vv_null (pc := 30) d_N_init_30 ?_
  refine vv_putf (pc := 31) d_N_init_31 fl_N_26 (by decide) rfl rfl rfl rfl ?_
  refine vv_aload_n (pc := 34) d_N_init_34 rfl ?_
  refine vv_null (pc := 35) d_N_init_35 ?_
  refine vv_putf (pc := 36) d_N_init_36 fl_N_29 (by decide) rfl rfl rfl rfl ?_
  exact vv_vret (pc := 39) d_N_init_39 rfl
theorem x_Q_peek_5 {G : cp_G} {h : Nat → cp_E} {z d : Nat} {g21 : Nat → Value} {c : Int32} (hc1 : ¬ c < 65) (hc2 : ¬ 90 < c) (hc3 : ¬ c - 65 < 0) (hc4 : ¬ 26 ≤ c - 65) (hc5 : vp_in (c - 65) 26) (hd : 0 ≤ d) (H21 : h 21 = .inr (5, g21)) (E21_2 : g21 2 = .int 0) (E21_1 : g21 1 = .int 0) : cp_C G d m_Q_peek [.ref (cp_b G + 21)] h 87 z (some (.int 0)) h 87 (z + 0) := by
  refine cp_C.of rfl (Nat.le_of_ble_eq_true rfl) ?_
  refine vv_aload_n (pc := 0) d_Q_peek_0 rfl ?_
  refine vv_getf (pc := 1) d_Q_peek_1 fl_Q_19 (by decide) H21 E21_2 ?_
  refine vv_if_lt (pc := 4) (tgt := 30) d_Q_peek_4 rfl (fun hc => absurd hc (by decide +kernel)) (fun _ => ?_)
  refine vv_aload_n (pc := 7) d_Q_peek_7 rfl ?_
  refine vv_getf (pc := 8) d_Q_peek_8 fl_Q_19 (by decide) H21 E21_2 ?_
  refine vv_aload_n (pc := 11) d_Q_peek_11 rfl ?_
  refine vv_getf (pc := 12) d_Q_peek_12 fl_Q_15 (by decide) H21 E21_1 ?_
  refine vv_icmp_ge (pc := 15) (tgt := 30) d_Q_peek_15 rfl (fun _ => ?_) (fun hc => absurd (by decide +kernel) hc)
  refine vv_iconst (pc := 30) (v := 0) d_Q_peek_30 rfl ?_
  exact vv_zret (pc := 31) d_Q_peek_31 rfl rfl
theorem x_P_isVariable_3 {G : cp_G} {h : Nat → cp_E} {z d : Nat} {c : Int32} (hc1 : ¬ c < 65) (hc2 : ¬ 90 < c) (hc3 : ¬ c - 65 < 0) (hc4 : ¬ 26 ≤ c - 65) (hc5 : vp_in (c - 65) 26) (hd : 0 ≤ d) : cp_C G d m_P_isVariable [.int 0] h 87 z (some (.int 0)) h 87 (z + 0) := by
  refine cp_C.of rfl (Nat.le_of_ble_eq_true rfl) ?_
  refine vv_iload_n (pc := 0) d_P_isVariable_0 rfl ?_
  refine vv_bipush (pc := 1) (v := 97) d_P_isVariable_1 rfl ?_
  refine vv_icmp_lt (pc := 3) (tgt := 16) d_P_isVariable_3 rfl (fun _ => ?_) (fun hc => absurd (by decide +kernel) hc)
  refine vv_iconst (pc := 16) (v := 0) d_P_isVariable_16 rfl ?_
  exact vv_zret (pc := 17) d_P_isVariable_17 rfl rfl
theorem x_Q_readVariables {G : cp_G} {h : Nat → cp_E} {z d : Nat} {g21 : Nat → Value} {c : Int32} (hc1 : ¬ c < 65) (hc2 : ¬ 90 < c) (hc3 : ¬ c - 65 < 0) (hc4 : ¬ 26 ≤ c - 65) (hc5 : vp_in (c - 65) 26) (hd : 1 ≤ d) (H21 : h 21 = .inr (5, g21)) (E21_2 : g21 2 = .int 0) (E21_1 : g21 1 = .int 0) : cp_C G d m_Q_readVariables [.ref (cp_b G + 21), .ref (cp_b G + 86), .int 4, .int 61] h 87 z (some (.int 0)) h 87 (z + 0) := by
  refine cp_C.of rfl (Nat.le_of_ble_eq_true rfl) ?_
  refine vv_iconst (pc := 0) (v := 1) d_Q_readVariables_0 rfl ?_
  refine vv_istore (pc := 1) d_Q_readVariables_1 (Nat.le_of_ble_eq_true rfl) ?_
  refine vv_iload (pc := 3) d_Q_readVariables_3 rfl ?_
  refine vv_iload_n (pc := 5) d_Q_readVariables_5 rfl ?_
  refine vv_icmp_gt (pc := 6) (tgt := 52) d_Q_readVariables_6 rfl (fun hc => absurd hc (by decide +kernel)) (fun _ => ?_)
  refine vv_aload_n (pc := 9) d_Q_readVariables_9 rfl ?_
  refine vv_callV (pc := 10) (As := []) d_Q_readVariables_10 (x_Q_peek_5 (c := c) hc1 hc2 hc3 hc4 hc5 (d := d - 1) (by omega) H21 E21_2 E21_1) k_Q_peek ml_Q_53.1 ml_Q_53.2.1 ml_Q_53.2.2.1 ml_Q_53.2.2.2.1 ml_Q_53.2.2.2.2 (by decide) H21 (by omega) (Nat.le_of_ble_eq_true rfl) ?_
  refine vv_istore (pc := 13) d_Q_readVariables_13 (Nat.le_of_ble_eq_true rfl) ?_
  refine vv_iload (pc := 15) d_Q_readVariables_15 rfl ?_
  refine vv_callSN (pc := 17) (As := [.int 0]) d_Q_readVariables_17 (x_P_isVariable_3 (c := c) hc1 hc2 hc3 hc4 hc5 (d := d - 1) (by omega)) k_P_isVariable nl_Q_79 ks_P_isVariable (by omega) (Nat.le_of_ble_eq_true rfl) ?_
  refine vv_if_ne (pc := 20) (tgt := 25) d_Q_readVariables_20 rfl (fun hc => absurd (by decide +kernel) hc) (fun _ => ?_)
  refine vv_iconst (pc := 23) (v := 0) d_Q_readVariables_23 rfl ?_
  exact vv_zret (pc := 24) d_Q_readVariables_24 rfl rfl
theorem x_Q_readProgram {G : cp_G} {h : Nat → cp_E} {z d : Nat} {g21 : Nat → Value} {c : Int32} (hc1 : ¬ c < 65) (hc2 : ¬ 90 < c) (hc3 : ¬ c - 65 < 0) (hc4 : ¬ 26 ≤ c - 65) (hc5 : vp_in (c - 65) 26) (hd : 2 ≤ d) (H21 : h 21 = .inr (5, g21)) (E21_2 : g21 2 = .int 0) (E21_1 : g21 1 = .int 0) : cp_C G d m_Q_readProgram [.ref (cp_b G + 21)] h 86 z (some (.null)) (va_up (va_up (va_up (va_up (va_up (va_up (va_up (va_up h 86 (.inr (9, (fun k => defaultValue (cp_ty 9 k))))) 86 (.inr (9, (va_up (fun k => defaultValue (cp_ty 9 k)) 0 (.int 17))))) 86 (.inr (9, (va_up (va_up (fun k => defaultValue (cp_ty 9 k)) 0 (.int 17)) 1 (.int 0))))) 86 (.inr (9, (va_up (va_up (va_up (fun k => defaultValue (cp_ty 9 k)) 0 (.int 17)) 1 (.int 0)) 2 (.int 0))))) 86 (.inr (9, (va_up (va_up (va_up (va_up (fun k => defaultValue (cp_ty 9 k)) 0 (.int 17)) 1 (.int 0)) 2 (.int 0)) 3 (.int 0))))) 86 (.inr (9, (va_up (va_up (va_up (va_up (va_up (fun k => defaultValue (cp_ty 9 k)) 0 (.int 17)) 1 (.int 0)) 2 (.int 0)) 3 (.int 0)) 4 (.null))))) 86 (.inr (9, (va_up (va_up (va_up (va_up (va_up (va_up (fun k => defaultValue (cp_ty 9 k)) 0 (.int 17)) 1 (.int 0)) 2 (.int 0)) 3 (.int 0)) 4 (.null)) 5 (.null))))) 86 (.inr (9, (va_up (va_up (va_up (va_up (va_up (va_up (va_up (fun k => defaultValue (cp_ty 9 k)) 0 (.int 17)) 1 (.int 0)) 2 (.int 0)) 3 (.int 0)) 4 (.null)) 5 (.null)) 6 (.null))))) 87 (z + 7) := by
  refine cp_C.of rfl (Nat.le_of_ble_eq_true rfl) ?_
  refine vv_new (pc := 0) (N := 7) d_Q_readProgram_0 cp_ok9 cl_Q_36 rfl ?_
  refine vv_dup (pc := 3) d_Q_readProgram_3 rfl ?_
  refine vv_bipush (pc := 4) (v := 17) d_Q_readProgram_4 rfl ?_
  refine vv_iconst (pc := 6) (v := 0) d_Q_readProgram_6 rfl ?_
  refine vv_iconst (pc := 7) (v := 0) d_Q_readProgram_7 rfl ?_
  refine vv_callI (pc := 8) (As := [.int 17, .int 0, .int 0]) d_Q_readProgram_8 (x_N_init_2 (c := c) hc1 hc2 hc3 hc4 hc5 (d := d - 1) (by omega) rfl) k_N_init ml_Q_38.1 ml_Q_38.2.1 ml_Q_38.2.2.1 ml_Q_38.2.2.2 (by omega) (Nat.le_of_ble_eq_true rfl) ?_
  refine vv_astore_n (pc := 11) d_Q_readProgram_11 cp_isr_r (Nat.le_of_ble_eq_true rfl) ?_
  refine vv_aload_n (pc := 12) d_Q_readProgram_12 rfl ?_
  refine vv_aload_n (pc := 13) d_Q_readProgram_13 rfl ?_
  refine vv_iconst (pc := 14) (v := 4) d_Q_readProgram_14 rfl ?_
  refine vv_bipush (pc := 15) (v := 61) d_Q_readProgram_15 rfl ?_
  refine vv_callV (pc := 17) (As := [.ref (cp_b G + 86), .int 4, .int 61]) d_Q_readProgram_17 (x_Q_readVariables (c := c) hc1 hc2 hc3 hc4 hc5 (d := d - 1) (by omega) H21 E21_2 E21_1) k_Q_readVariables ml_Q_64.1 ml_Q_64.2.1 ml_Q_64.2.2.1 ml_Q_64.2.2.2.1 ml_Q_64.2.2.2.2 (by decide) H21 (by omega) (Nat.le_of_ble_eq_true rfl) ?_
  refine vv_if_ne (pc := 20) (tgt := 25) d_Q_readProgram_20 rfl (fun hc => absurd (by decide +kernel) hc) (fun _ => ?_)
  refine vv_null (pc := 23) d_Q_readProgram_23 ?_
  exact vv_aret (pc := 24) d_Q_readProgram_24 rfl (Or.inl ⟨_, rfl⟩) cp_isr_n
theorem x_Q_place_3 {G : cp_G} {h : Nat → cp_E} {z d : Nat} {g21 : Nat → Value} {c : Int32} (hc1 : ¬ c < 65) (hc2 : ¬ 90 < c) (hc3 : ¬ c - 65 < 0) (hc4 : ¬ 26 ≤ c - 65) (hc5 : vp_in (c - 65) 26) (hd : 0 ≤ d) (H21 : h 21 = .inr (5, g21)) (E21_2 : g21 2 = .int 0) : cp_C G d m_Q_place [.ref (cp_b G + 21)] h 87 z (some (.int 0)) h 87 (z + 0) := by
  refine cp_C.of rfl (Nat.le_of_ble_eq_true rfl) ?_
  refine vv_aload_n (pc := 0) d_Q_place_0 rfl ?_
  refine vv_getf (pc := 1) d_Q_place_1 fl_Q_19 (by decide) H21 E21_2 ?_
  exact vv_iret (pc := 4) d_Q_place_4 rfl
theorem x_P_fault_3 {G : cp_G} {h : Nat → cp_E} {z d : Nat} {g0 g21 : Nat → Value} {c : Int32} (hc1 : ¬ c < 65) (hc2 : ¬ 90 < c) (hc3 : ¬ c - 65 < 0) (hc4 : ¬ 26 ≤ c - 65) (hc5 : vp_in (c - 65) 26) (hd : 1 ≤ d) (H0 : h 0 = .inr (0, g0)) (E0_7 : g0 7 = .ref (cp_b G + 21)) (H21 : h 21 = .inr (5, g21)) (E21_2 : g21 2 = .int 0) : cp_C G d m_P_fault [.ref (cp_b G + 0)] h 87 z (some (.int (-1))) h 87 (z + 0) := by
  refine cp_C.of rfl (Nat.le_of_ble_eq_true rfl) ?_
  refine vv_iconst (pc := 0) (v := (-1)) d_P_fault_0 rfl ?_
  refine vv_aload_n (pc := 1) d_P_fault_1 rfl ?_
  refine vv_getf (pc := 2) d_P_fault_2 fl_P_47 (by decide) H0 E0_7 ?_
  refine vv_callV (pc := 5) (As := []) d_P_fault_5 (x_Q_place_3 (c := c) hc1 hc2 hc3 hc4 hc5 (d := d - 1) (by omega) H21 E21_2) k_Q_place ml_P_219.1 ml_P_219.2.1 ml_P_219.2.2.1 ml_P_219.2.2.2.1 ml_P_219.2.2.2.2 (by decide) H21 (by omega) (Nat.le_of_ble_eq_true rfl) ?_
  refine vv_isub (pc := 8) d_P_fault_8 ?_
  refine vv_topi (y := (-1)) (by decide +kernel) ?_
  exact vv_iret (pc := 9) d_P_fault_9 rfl
theorem x_P_program_3 {G : cp_G} {h : Nat → cp_E} {z d : Nat} {g0 g3 g21 g6 g7 g14 g15 g17 g19 : Nat → Value} {f1 : Nat → Int32} {c : Int32} (hc1 : ¬ c < 65) (hc2 : ¬ 90 < c) (hc3 : ¬ c - 65 < 0) (hc4 : ¬ 26 ≤ c - 65) (hc5 : vp_in (c - 65) 26) (hd : 3 ≤ d) (H0 : h 0 = .inr (0, g0)) (E0_4 : g0 4 = .ref (cp_b G + 3)) (H3 : h 3 = .inr (1, g3)) (E3_0 : g3 0 = .ref (cp_b G + 4)) (H4 : h 4 = .inl (cp_cE G, 26, .inr (.inr (.inr (.inr (fun _ => none)))))) (E0_7 : g0 7 = .ref (cp_b G + 21)) (E0_0 : g0 0 = .ref (cp_b G + 1)) (E0_1 : g0 1 = .int 0) (H21 : h 21 = .inr (5, g21)) (H1 : h 1 = .inl (cp_cC G, 80, .inl f1)) (E0_5 : g0 5 = .ref (cp_b G + 6)) (H6 : h 6 = .inr (2, g6)) (E6_0 : g6 0 = .ref (cp_b G + 7)) (H7 : h 7 = .inr (3, g7)) (E7_1 : g7 1 = .int 0) (E0_6 : g0 6 = .ref (cp_b G + 14)) (H14 : h 14 = .inr (4, g14)) (E14_0 : g14 0 = .ref (cp_b G + 15)) (H15 : h 15 = .inr (3, g15)) (E15_1 : g15 1 = .int 0) (E14_1 : g14 1 = .ref (cp_b G + 17)) (H17 : h 17 = .inr (3, g17)) (E17_1 : g17 1 = .int 0) (E14_2 : g14 2 = .ref (cp_b G + 19)) (H19 : h 19 = .inr (3, g19)) (E19_1 : g19 1 = .int 0) : cp_C G d m_P_program [.ref (cp_b G + 0), .int c] h 86 z (some (.int (-1))) (va_up (va_up (va_up (va_up (va_up (va_up (va_up (va_up (va_up (va_up (va_up (va_up h 21 (.inr (5, (va_up g21 0 (.ref (cp_b G + 1)))))) 21 (.inr (5, (va_up (va_up g21 0 (.ref (cp_b G + 1))) 1 (.int 0))))) 21 (.inr (5, (va_up (va_up (va_up g21 0 (.ref (cp_b G + 1))) 1 (.int 0)) 2 (.int 0))))) 0 (.inr (0, (va_up g0 1 (.int 0))))) 86 (.inr (9, (fun k => defaultValue (cp_ty 9 k))))) 86 (.inr (9, (va_up (fun k => defaultValue (cp_ty 9 k)) 0 (.int 17))))) 86 (.inr (9, (va_up (va_up (fun k => defaultValue (cp_ty 9 k)) 0 (.int 17)) 1 (.int 0))))) 86 (.inr (9, (va_up (va_up (va_up (fun k => defaultValue (cp_ty 9 k)) 0 (.int 17)) 1 (.int 0)) 2 (.int 0))))) 86 (.inr (9, (va_up (va_up (va_up (va_up (fun k => defaultValue (cp_ty 9 k)) 0 (.int 17)) 1 (.int 0)) 2 (.int 0)) 3 (.int 0))))) 86 (.inr (9, (va_up (va_up (va_up (va_up (va_up (fun k => defaultValue (cp_ty 9 k)) 0 (.int 17)) 1 (.int 0)) 2 (.int 0)) 3 (.int 0)) 4 (.null))))) 86 (.inr (9, (va_up (va_up (va_up (va_up (va_up (va_up (fun k => defaultValue (cp_ty 9 k)) 0 (.int 17)) 1 (.int 0)) 2 (.int 0)) 3 (.int 0)) 4 (.null)) 5 (.null))))) 86 (.inr (9, (va_up (va_up (va_up (va_up (va_up (va_up (va_up (fun k => defaultValue (cp_ty 9 k)) 0 (.int 17)) 1 (.int 0)) 2 (.int 0)) 3 (.int 0)) 4 (.null)) 5 (.null)) 6 (.null))))) 87 (z + 7) := by
  refine cp_C.of rfl (Nat.le_of_ble_eq_true rfl) ?_
  refine vv_aload_n (pc := 0) d_P_program_0 rfl ?_
  refine vv_iload_n (pc := 1) d_P_program_1 rfl ?_
  refine vv_callV (pc := 2) (As := [.int c]) d_P_program_2 (x_P_refuseUnlessFree_6 (c := c) hc1 hc2 hc3 hc4 hc5 (d := d - 1) (by omega) H0 E0_4 H3 E3_0 H4) k_P_refuseUnlessFree ml_P_86.1 ml_P_86.2.1 ml_P_86.2.2.1 ml_P_86.2.2.2.1 ml_P_86.2.2.2.2 (by decide) H0 (by omega) (Nat.le_of_ble_eq_true rfl) ?_
  refine vv_aload_n (pc := 5) d_P_program_5 rfl ?_
  refine vv_callV (pc := 6) (As := []) d_P_program_6 (x_P_openText_3 (c := c) hc1 hc2 hc3 hc4 hc5 (d := d - 1) (by omega) H0 E0_7 E0_0 E0_1 H21 H1 E0_5 H6 E6_0 H7 E7_1 E0_6 H14 E14_0 H15 E15_1 E14_1 H17 E17_1 E14_2 H19 E19_1) k_P_openText ml_P_90.1 ml_P_90.2.1 ml_P_90.2.2.1 ml_P_90.2.2.2.1 ml_P_90.2.2.2.2 (by decide) H0 (by omega) (Nat.le_of_ble_eq_true rfl) ?_
  refine vv_aload_n (pc := 9) d_P_program_9 rfl ?_
  refine vv_getf (pc := 10) d_P_program_10 fl_P_47 (by decide) rfl E0_7 ?_
  refine vv_callV (pc := 13) (As := []) d_P_program_13 (x_Q_readProgram (c := c) hc1 hc2 hc3 hc4 hc5 (d := d - 1) (by omega) rfl rfl rfl) k_Q_readProgram ml_P_114.1 ml_P_114.2.1 ml_P_114.2.2.1 ml_P_114.2.2.2.1 ml_P_114.2.2.2.2 (by decide) rfl (by omega) (Nat.le_of_ble_eq_true rfl) ?_
  refine vv_astore_n (pc := 16) d_P_program_16 cp_isr_n (Nat.le_of_ble_eq_true rfl) ?_
  refine vv_aload_nN (pc := 17) d_P_program_17 rfl ?_
  refine vv_ifnonnullN (pc := 18) d_P_program_18 ?_
  refine vv_aload_n (pc := 21) d_P_program_21 rfl ?_
  refine vv_callV (pc := 22) (As := []) d_P_program_22 (x_P_fault_3 (c := c) hc1 hc2 hc3 hc4 hc5 (d := d - 1) (by omega) rfl E0_7 rfl rfl) k_P_fault ml_P_97.1 ml_P_97.2.1 ml_P_97.2.2.1 ml_P_97.2.2.2.1 ml_P_97.2.2.2.2 (by decide) rfl (by omega) (Nat.le_of_ble_eq_true rfl) ?_
  exact vv_iret (pc := 25) d_P_program_25 rfl
theorem x_L_program_3 {G : cp_G} {h : Nat → cp_E} {z d : Nat} {g0 g3 g21 g6 g7 g14 g15 g17 g19 : Nat → Value} {f1 : Nat → Int32} {c : Int32} (hc1 : ¬ c < 65) (hc2 : ¬ 90 < c) (hc3 : ¬ c - 65 < 0) (hc4 : ¬ 26 ≤ c - 65) (hc5 : vp_in (c - 65) 26) (hd : 4 ≤ d) (H0 : h 0 = .inr (0, g0)) (E0_4 : g0 4 = .ref (cp_b G + 3)) (H3 : h 3 = .inr (1, g3)) (E3_0 : g3 0 = .ref (cp_b G + 4)) (H4 : h 4 = .inl (cp_cE G, 26, .inr (.inr (.inr (.inr (fun _ => none)))))) (E0_7 : g0 7 = .ref (cp_b G + 21)) (E0_0 : g0 0 = .ref (cp_b G + 1)) (E0_1 : g0 1 = .int 0) (H21 : h 21 = .inr (5, g21)) (H1 : h 1 = .inl (cp_cC G, 80, .inl f1)) (E0_5 : g0 5 = .ref (cp_b G + 6)) (H6 : h 6 = .inr (2, g6)) (E6_0 : g6 0 = .ref (cp_b G + 7)) (H7 : h 7 = .inr (3, g7)) (E7_1 : g7 1 = .int 0) (E0_6 : g0 6 = .ref (cp_b G + 14)) (H14 : h 14 = .inr (4, g14)) (E14_0 : g14 0 = .ref (cp_b G + 15)) (H15 : h 15 = .inr (3, g15)) (E15_1 : g15 1 = .int 0) (E14_1 : g14 1 = .ref (cp_b G + 17)) (H17 : h 17 = .inr (3, g17)) (E17_1 : g17 1 = .int 0) (E14_2 : g14 2 = .ref (cp_b G + 19)) (H19 : h 19 = .inr (3, g19)) (E19_1 : g19 1 = .int 0) (H85 : h 85 = .inl (cp_cL G, 1, .inr (.inl (fun _ => 0)))) : cp_CW G d m_L_program [(0, 9, 12, 13), (0, 9, 15, 15)] [.ref (cp_b G + 0), .int c, .ref (cp_b G + 85)] h 86 z (some (.int 0)) (va_up (va_up (va_up (va_up (va_up (va_up (va_up (va_up (va_up (va_up (va_up (va_up (va_up h 21 (.inr (5, (va_up g21 0 (.ref (cp_b G + 1)))))) 21 (.inr (5, (va_up (va_up g21 0 (.ref (cp_b G + 1))) 1 (.int 0))))) 21 (.inr (5, (va_up (va_up (va_up g21 0 (.ref (cp_b G + 1))) 1 (.int 0)) 2 (.int 0))))) 0 (.inr (0, (va_up g0 1 (.int 0))))) 86 (.inr (9, (fun k => defaultValue (cp_ty 9 k))))) 86 (.inr (9, (va_up (fun k => defaultValue (cp_ty 9 k)) 0 (.int 17))))) 86 (.inr (9, (va_up (va_up (fun k => defaultValue (cp_ty 9 k)) 0 (.int 17)) 1 (.int 0))))) 86 (.inr (9, (va_up (va_up (va_up (fun k => defaultValue (cp_ty 9 k)) 0 (.int 17)) 1 (.int 0)) 2 (.int 0))))) 86 (.inr (9, (va_up (va_up (va_up (va_up (fun k => defaultValue (cp_ty 9 k)) 0 (.int 17)) 1 (.int 0)) 2 (.int 0)) 3 (.int 0))))) 86 (.inr (9, (va_up (va_up (va_up (va_up (va_up (fun k => defaultValue (cp_ty 9 k)) 0 (.int 17)) 1 (.int 0)) 2 (.int 0)) 3 (.int 0)) 4 (.null))))) 86 (.inr (9, (va_up (va_up (va_up (va_up (va_up (va_up (fun k => defaultValue (cp_ty 9 k)) 0 (.int 17)) 1 (.int 0)) 2 (.int 0)) 3 (.int 0)) 4 (.null)) 5 (.null))))) 86 (.inr (9, (va_up (va_up (va_up (va_up (va_up (va_up (va_up (fun k => defaultValue (cp_ty 9 k)) 0 (.int 17)) 1 (.int 0)) 2 (.int 0)) 3 (.int 0)) 4 (.null)) 5 (.null)) 6 (.null))))) 85 (.inl (cp_cL G, 1, .inr (.inl (vp_updL (fun _ => 0) (0 : Int32).toNatClampNeg (-1)))))) 87 (z + 7) := by
  refine cp_CW.of rfl (Nat.le_of_ble_eq_true rfl) ?_
  refine vv_aload_n (pc := 0) d_L_program_0 rfl ?_
  refine vv_iconst (pc := 1) (v := 0) d_L_program_1 rfl ?_
  refine vv_aload_n (pc := 2) d_L_program_2 rfl ?_
  refine vv_iload_n (pc := 3) d_L_program_3 rfl ?_
  refine vv_callV (pc := 4) (As := [.int c]) d_L_program_4 (x_P_program_3 (c := c) hc1 hc2 hc3 hc4 hc5 (d := d - 1) (by omega) H0 E0_4 H3 E3_0 H4 E0_7 E0_0 E0_1 H21 H1 E0_5 H6 E6_0 H7 E7_1 E0_6 H14 E14_0 H15 E15_1 E14_1 H17 E17_1 E14_2 H19 E19_1) k_P_program ml_L_17.1 ml_L_17.2.1 ml_L_17.2.2.1 ml_L_17.2.2.2.1 ml_L_17.2.2.2.2 (by decide) H0 (by omega) (Nat.le_of_ble_eq_true rfl) ?_
  refine vv_i2l (pc := 7) d_L_program_7 ?_
  refine vv_last (pc := 8) d_L_program_8 (by decide) H85 (by unfold vp_in; decide +kernel) ?_
  refine vv_goto (pc := 9) (tgt := 18) d_L_program_9 rfl ?_
  refine vv_iconst (pc := 18) (v := 0) d_L_program_18 rfl ?_
  exact vv_iret (pc := 19) d_L_program_19 rfl
theorem x_M_isLetter_6 {G : cp_G} {h : Nat → cp_E} {z d : Nat} {c : Int32} (hc1 : ¬ c < 65) (hc2 : ¬ 90 < c) (hc3 : ¬ c - 65 < 0) (hc4 : ¬ 26 ≤ c - 65) (hc5 : vp_in (c - 65) 26) (hd : 0 ≤ d) : cp_C G d m_M_isLetter [.int c] h 87 z (some (.int 1)) h 87 (z + 0) := by
  refine cp_C.of rfl (Nat.le_of_ble_eq_true rfl) ?_
  refine vv_iload_n (pc := 0) d_M_isLetter_0 rfl ?_
  refine vv_bipush (pc := 1) (v := 65) d_M_isLetter_1 rfl ?_
  refine vv_icmp_lt (pc := 3) (tgt := 16) d_M_isLetter_3 rfl (fun hc => absurd hc hc1) (fun _ => ?_)
  refine vv_iload_n (pc := 6) d_M_isLetter_6 rfl ?_
  refine vv_bipush (pc := 7) (v := 90) d_M_isLetter_7 rfl ?_
  refine vv_icmp_gt (pc := 9) (tgt := 16) d_M_isLetter_9 rfl (fun hc => absurd hc hc2) (fun _ => ?_)
  refine vv_iconst (pc := 12) (v := 1) d_M_isLetter_12 rfl ?_
  refine vv_goto (pc := 13) (tgt := 17) d_M_isLetter_13 rfl ?_
  exact vv_zret (pc := 17) d_M_isLetter_17 rfl rfl
theorem x_M_mayName_6 {G : cp_G} {h : Nat → cp_E} {z d : Nat} {g26 : Nat → Value} {f30 : Nat → Int32} {c : Int32} (hc1 : ¬ c < 65) (hc2 : ¬ 90 < c) (hc3 : ¬ c - 65 < 0) (hc4 : ¬ 26 ≤ c - 65) (hc5 : vp_in (c - 65) 26) (hd : 1 ≤ d) (H26 : h 26 = .inr (11, g26)) (E26_6 : g26 6 = .ref (cp_b G + 30)) (H30 : h 30 = .inl (cp_cI G, 26, .inl f30)) (Z30 : f30 = fun _ => 0) : cp_C G d m_M_mayName [.ref (cp_b G + 26), .int c] h 87 z (some (.int 1)) (va_up h 26 (.inr (11, (va_up g26 0 (.int 0))))) 87 (z + 0) := by
  refine cp_C.of rfl (Nat.le_of_ble_eq_true rfl) ?_
  refine vv_aload_n (pc := 0) d_M_mayName_0 rfl ?_
  refine vv_iload_n (pc := 1) d_M_mayName_1 rfl ?_
  refine vv_callS (pc := 2) (As := [.int c]) d_M_mayName_2 (x_M_isLetter_6 (c := c) hc1 hc2 hc3 hc4 hc5 (d := d - 1) (by omega)) k_M_isLetter ml_M_215.1 ml_M_215.2 (by omega) (Nat.le_of_ble_eq_true rfl) ?_
  refine vv_if_ne (pc := 5) (tgt := 12) d_M_mayName_5 rfl (fun _ => ?_) (fun hc => absurd hc (by decide +kernel))
  refine vv_aload_n (pc := 12) d_M_mayName_12 rfl ?_
  refine vv_getf (pc := 13) d_M_mayName_13 fl_M_19 (by decide) H26 E26_6 ?_
  refine vv_iload_n (pc := 16) d_M_mayName_16 rfl ?_
  refine vv_bipush (pc := 17) (v := 65) d_M_mayName_17 rfl ?_
  refine vv_isub (pc := 19) d_M_mayName_19 ?_
  refine vv_iald (pc := 20) d_M_mayName_20 (by decide) H30 hc5 ?_
  refine vv_topi (y := 0) (congrFun Z30 _) ?_
  refine vv_if_eq (pc := 21) (tgt := 28) d_M_mayName_21 rfl (fun _ => ?_) (fun hc => absurd (by decide +kernel) hc)
  refine vv_iconst (pc := 28) (v := 0) d_M_mayName_28 rfl ?_
  refine vv_putf (pc := 29) d_M_mayName_29 fl_M_184 (by decide) H26 rfl rfl rfl ?_
  refine vv_aload_n (pc := 32) d_M_mayName_32 rfl ?_
  refine vv_getf (pc := 33) d_M_mayName_33 fl_M_184 (by decide) rfl rfl ?_
  refine vv_if_ne (pc := 36) (tgt := 43) d_M_mayName_36 rfl (fun hc => absurd (by decide +kernel) hc) (fun _ => ?_)
  refine vv_iconst (pc := 39) (v := 1) d_M_mayName_39 rfl ?_
  refine vv_goto (pc := 40) (tgt := 44) d_M_mayName_40 rfl ?_
  exact vv_zret (pc := 44) d_M_mayName_44 rfl rfl
theorem x_M_push_3 {G : cp_G} {h : Nat → cp_E} {z d : Nat} {g26 : Nat → Value} {f49 f50 f51 : Nat → Int32} {c : Int32} (hc1 : ¬ c < 65) (hc2 : ¬ 90 < c) (hc3 : ¬ c - 65 < 0) (hc4 : ¬ 26 ≤ c - 65) (hc5 : vp_in (c - 65) 26) (hd : 0 ≤ d) (H26 : h 26 = .inr (11, g26)) (E26_30 : g26 30 = .ref (cp_b G + 49)) (E26_29 : g26 29 = .int 0) (H49 : h 49 = .inl (cp_cI G, 400, .inl f49)) (E26_31 : g26 31 = .ref (cp_b G + 50)) (H50 : h 50 = .inl (cp_cI G, 400, .inl f50)) (E26_32 : g26 32 = .ref (cp_b G + 51)) (H51 : h 51 = .inl (cp_cI G, 400, .inl f51)) : cp_C G d m_M_push [.ref (cp_b G + 26), .int 209, .int 0, .int 0] h 87 z none (va_up (va_up (va_up (va_up h 49 (.inl (cp_cI G, 400, .inl (upd f49 0 209)))) 50 (.inl (cp_cI G, 400, .inl (upd f50 0 0)))) 51 (.inl (cp_cI G, 400, .inl (upd f51 0 0)))) 26 (.inr (11, (va_up g26 29 (.int 1))))) 87 (z + 0) := by
  refine cp_C.of rfl (Nat.le_of_ble_eq_true rfl) ?_
  refine vv_aload_n (pc := 0) d_M_push_0 rfl ?_
  refine vv_getf (pc := 1) d_M_push_1 fl_M_76 (by decide) H26 E26_30 ?_
  refine vv_aload_n (pc := 4) d_M_push_4 rfl ?_
  refine vv_getf (pc := 5) d_M_push_5 fl_M_191 (by decide) H26 E26_29 ?_
  refine vv_iload_n (pc := 8) d_M_push_8 rfl ?_
  refine vv_iasN (pc := 9) (j := 0) d_M_push_9 (by decide) H49 (by decide) (by decide) ?_
  refine vv_aload_n (pc := 10) d_M_push_10 rfl ?_
  refine vv_getf (pc := 11) d_M_push_11 fl_M_79 (by decide) H26 E26_31 ?_
  refine vv_aload_n (pc := 14) d_M_push_14 rfl ?_
  refine vv_getf (pc := 15) d_M_push_15 fl_M_191 (by decide) H26 E26_29 ?_
  refine vv_iload_n (pc := 18) d_M_push_18 rfl ?_
  refine vv_iasN (pc := 19) (j := 0) d_M_push_19 (by decide) H50 (by decide) (by decide) ?_
  refine vv_aload_n (pc := 20) d_M_push_20 rfl ?_
  refine vv_getf (pc := 21) d_M_push_21 fl_M_82 (by decide) H26 E26_32 ?_
  refine vv_aload_n (pc := 24) d_M_push_24 rfl ?_
  refine vv_getf (pc := 25) d_M_push_25 fl_M_191 (by decide) H26 E26_29 ?_
  refine vv_iload_n (pc := 28) d_M_push_28 rfl ?_
  refine vv_iasN (pc := 29) (j := 0) d_M_push_29 (by decide) H51 (by decide) (by decide) ?_
  refine vv_aload_n (pc := 30) d_M_push_30 rfl ?_
  refine vv_dup (pc := 31) d_M_push_31 rfl ?_
  refine vv_getf (pc := 32) d_M_push_32 fl_M_191 (by decide) H26 E26_29 ?_
  refine vv_iconst (pc := 35) (v := 1) d_M_push_35 rfl ?_
  refine vv_iadd (pc := 36) d_M_push_36 ?_
  refine vv_topi (y := 1) (by decide +kernel) ?_
  refine vv_putf (pc := 37) d_M_push_37 fl_M_191 (by decide) H26 rfl rfl rfl ?_
  exact vv_vret (pc := 40) d_M_push_40 rfl
theorem x_M_read_3 {G : cp_G} {h : Nat → cp_E} {z d : Nat} {g26 : Nat → Value} {f49 f50 f51 : Nat → Int32} {c : Int32} (hc1 : ¬ c < 65) (hc2 : ¬ 90 < c) (hc3 : ¬ c - 65 < 0) (hc4 : ¬ 26 ≤ c - 65) (hc5 : vp_in (c - 65) 26) (hd : 1 ≤ d) (H26 : h 26 = .inr (11, g26)) (E26_1 : g26 1 = .int 0) (E26_23 : g26 23 = .int 0) (E26_16 : g26 16 = .int 0) (E26_30 : g26 30 = .ref (cp_b G + 49)) (H49 : h 49 = .inl (cp_cI G, 400, .inl f49)) (E26_31 : g26 31 = .ref (cp_b G + 50)) (H50 : h 50 = .inl (cp_cI G, 400, .inl f50)) (E26_32 : g26 32 = .ref (cp_b G + 51)) (H51 : h 51 = .inl (cp_cI G, 400, .inl f51)) : cp_C G d m_M_read [.ref (cp_b G + 26), .int 209, .int 0, .int 0] h 87 z (some (.int 0)) (va_up (va_up (va_up (va_up (va_up (va_up (va_up (va_up h 26 (.inr (11, (va_up g26 1 (.int 0))))) 26 (.inr (11, (va_up (va_up g26 1 (.int 0)) 29 (.int 0))))) 26 (.inr (11, (va_up (va_up (va_up g26 1 (.int 0)) 29 (.int 0)) 33 (.int 0))))) 26 (.inr (11, (va_up (va_up (va_up (va_up g26 1 (.int 0)) 29 (.int 0)) 33 (.int 0)) 20 (.int 0))))) 49 (.inl (cp_cI G, 400, .inl (upd f49 0 209)))) 50 (.inl (cp_cI G, 400, .inl (upd f50 0 0)))) 51 (.inl (cp_cI G, 400, .inl (upd f51 0 0)))) 26 (.inr (11, (va_up (va_up (va_up (va_up (va_up g26 1 (.int 0)) 29 (.int 0)) 33 (.int 0)) 20 (.int 0)) 29 (.int 1))))) 87 (z + 0) := by
  refine cp_C.of rfl (Nat.le_of_ble_eq_true rfl) ?_
  refine vv_aload_n (pc := 0) d_M_read_0 rfl ?_
  refine vv_getf (pc := 1) d_M_read_1 fl_M_188 (by decide) H26 E26_1 ?_
  refine vv_istore (pc := 4) d_M_read_4 (Nat.le_of_ble_eq_true rfl) ?_
  refine vv_aload_n (pc := 6) d_M_read_6 rfl ?_
  refine vv_iconst (pc := 7) (v := 0) d_M_read_7 rfl ?_
  refine vv_putf (pc := 8) d_M_read_8 fl_M_188 (by decide) H26 rfl rfl rfl ?_
  refine vv_aload_n (pc := 11) d_M_read_11 rfl ?_
  refine vv_iconst (pc := 12) (v := 0) d_M_read_12 rfl ?_
  refine vv_putf (pc := 13) d_M_read_13 fl_M_191 (by decide) rfl rfl rfl rfl ?_
  refine vv_aload_n (pc := 16) d_M_read_16 rfl ?_
  refine vv_aload_n (pc := 17) d_M_read_17 rfl ?_
  refine vv_getf (pc := 18) d_M_read_18 fl_M_253 (by decide) rfl E26_23 ?_
  refine vv_putf (pc := 21) d_M_read_21 fl_M_222 (by decide) rfl rfl rfl rfl ?_
  refine vv_aload_n (pc := 24) d_M_read_24 rfl ?_
  refine vv_aload_n (pc := 25) d_M_read_25 rfl ?_
  refine vv_getf (pc := 26) d_M_read_26 fl_M_194 (by decide) rfl E26_16 ?_
  refine vv_putf (pc := 29) d_M_read_29 fl_M_197 (by decide) rfl rfl rfl rfl ?_
  refine vv_aload_n (pc := 32) d_M_read_32 rfl ?_
  refine vv_iload_n (pc := 33) d_M_read_33 rfl ?_
  refine vv_iload_n (pc := 34) d_M_read_34 rfl ?_
  refine vv_iload_n (pc := 35) d_M_read_35 rfl ?_
  refine vv_callV (pc := 36) (As := [.int 209, .int 0, .int 0]) d_M_read_36 (x_M_push_3 (c := c) hc1 hc2 hc3 hc4 hc5 (d := d - 1) (by omega) rfl E26_30 rfl H49 E26_31 H50 E26_32 H51) k_M_push ml_M_218.1 ml_M_218.2.1 ml_M_218.2.2.1 ml_M_218.2.2.2.1 ml_M_218.2.2.2.2 (by decide) rfl (by omega) (Nat.le_of_ble_eq_true rfl) ?_
  refine vv_iconst (pc := 39) (v := 0) d_M_read_39 rfl ?_
  refine vv_istore (pc := 40) d_M_read_40 (Nat.le_of_ble_eq_true rfl) ?_
  refine vv_iload (pc := 42) d_M_read_42 rfl ?_
  refine vv_iload (pc := 44) d_M_read_44 rfl ?_
  refine vv_icmp_ge (pc := 46) (tgt := 74) d_M_read_46 rfl (fun _ => ?_) (fun hc => absurd (by decide +kernel) hc)
  refine vv_iconst (pc := 74) (v := 1) d_M_read_74 rfl ?_
  refine vv_istore (pc := 75) d_M_read_75 (Nat.le_of_ble_eq_true rfl) ?_
  refine vv_iconst (pc := 77) (v := 0) d_M_read_77 rfl ?_
  refine vv_istore (pc := 78) d_M_read_78 (Nat.le_of_ble_eq_true rfl) ?_
  refine vv_iload (pc := 80) d_M_read_80 rfl ?_
  refine vv_aload_n (pc := 82) d_M_read_82 rfl ?_
  refine vv_getf (pc := 83) d_M_read_83 fl_M_191 (by decide) rfl rfl ?_
  refine vv_icmp_ge (pc := 86) (tgt := 181) d_M_read_86 rfl (fun hc => absurd hc (by decide +kernel)) (fun _ => ?_)
  refine vv_aload_n (pc := 89) d_M_read_89 rfl ?_
  refine vv_getf (pc := 90) d_M_read_90 fl_M_76 (by decide) rfl E26_30 ?_
  refine vv_iload (pc := 93) d_M_read_93 rfl ?_
  refine vv_ialN (pc := 95) (j := 0) d_M_read_95 (by decide) rfl (by decide) (by decide) ?_
  refine vv_topi (y := 209) rfl ?_
  refine vv_sipush (pc := 96) (v := 201) d_M_read_96 rfl ?_
  refine vv_icmp_eq (pc := 99) (tgt := 151) d_M_read_99 rfl (fun hc => absurd hc (by decide +kernel)) (fun _ => ?_)
  refine vv_aload_n (pc := 102) d_M_read_102 rfl ?_
  refine vv_getf (pc := 103) d_M_read_103 fl_M_76 (by decide) rfl E26_30 ?_
  refine vv_iload (pc := 106) d_M_read_106 rfl ?_
  refine vv_ialN (pc := 108) (j := 0) d_M_read_108 (by decide) rfl (by decide) (by decide) ?_
  refine vv_topi (y := 209) rfl ?_
  refine vv_sipush (pc := 109) (v := 211) d_M_read_109 rfl ?_
  refine vv_icmp_eq (pc := 112) (tgt := 151) d_M_read_112 rfl (fun hc => absurd hc (by decide +kernel)) (fun _ => ?_)
  refine vv_aload_n (pc := 115) d_M_read_115 rfl ?_
  refine vv_getf (pc := 116) d_M_read_116 fl_M_76 (by decide) rfl E26_30 ?_
  refine vv_iload (pc := 119) d_M_read_119 rfl ?_
  refine vv_ialN (pc := 121) (j := 0) d_M_read_121 (by decide) rfl (by decide) (by decide) ?_
  refine vv_topi (y := 209) rfl ?_
  refine vv_sipush (pc := 122) (v := 215) d_M_read_122 rfl ?_
  refine vv_icmp_eq (pc := 125) (tgt := 151) d_M_read_125 rfl (fun hc => absurd hc (by decide +kernel)) (fun _ => ?_)
  refine vv_aload_n (pc := 128) d_M_read_128 rfl ?_
  refine vv_getf (pc := 129) d_M_read_129 fl_M_76 (by decide) rfl E26_30 ?_
  refine vv_iload (pc := 132) d_M_read_132 rfl ?_
  refine vv_ialN (pc := 134) (j := 0) d_M_read_134 (by decide) rfl (by decide) (by decide) ?_
  refine vv_topi (y := 209) rfl ?_
  refine vv_sipush (pc := 135) (v := 218) d_M_read_135 rfl ?_
  refine vv_icmp_ne (pc := 138) (tgt := 155) d_M_read_138 rfl (fun _ => ?_) (fun hc => absurd hc (by decide +kernel))
  refine vv_iconst (pc := 155) (v := 0) d_M_read_155 rfl ?_
  refine vv_istore (pc := 156) d_M_read_156 (Nat.le_of_ble_eq_true rfl) ?_
  refine vv_iload (pc := 158) d_M_read_158 rfl ?_
  refine vv_if_eq (pc := 160) (tgt := 172) d_M_read_160 rfl (fun hc => absurd hc (by decide +kernel)) (fun _ => ?_)
  refine vv_iload (pc := 163) d_M_read_163 rfl ?_
  refine vv_if_eq (pc := 165) (tgt := 172) d_M_read_165 rfl (fun _ => ?_) (fun hc => absurd (by decide +kernel) hc)
  refine vv_iconst (pc := 172) (v := 0) d_M_read_172 rfl ?_
  refine vv_istore (pc := 173) d_M_read_173 (Nat.le_of_ble_eq_true rfl) ?_
  refine vv_iinc (pc := 175) (v := 1) d_M_read_175 rfl (by decide +kernel) (Nat.le_of_ble_eq_true rfl) ?_
  refine vv_goto (pc := 178) (tgt := 80) d_M_read_178 rfl ?_
  refine vv_iload (pc := 80) d_M_read_80 rfl ?_
  refine vv_aload_n (pc := 82) d_M_read_82 rfl ?_
  refine vv_getf (pc := 83) d_M_read_83 fl_M_191 (by decide) rfl rfl ?_
  refine vv_icmp_ge (pc := 86) (tgt := 181) d_M_read_86 rfl (fun _ => ?_) (fun hc => absurd (by decide +kernel) hc)
  refine vv_iload (pc := 181) d_M_read_181 rfl ?_
  refine vv_if_eq (pc := 183) (tgt := 190) d_M_read_183 rfl (fun _ => ?_) (fun hc => absurd (by decide +kernel) hc)
  refine vv_iload (pc := 190) d_M_read_190 rfl ?_
  exact vv_iret (pc := 192) d_M_read_192 rfl
theorem x_M_program_3 {G : cp_G} {h : Nat → cp_E} {z d : Nat} {g26 : Nat → Value} {f30 f49 f50 f51 : Nat → Int32} {c : Int32} (hc1 : ¬ c < 65) (hc2 : ¬ 90 < c) (hc3 : ¬ c - 65 < 0) (hc4 : ¬ 26 ≤ c - 65) (hc5 : vp_in (c - 65) 26) (hd : 2 ≤ d) (H26 : h 26 = .inr (11, g26)) (E26_6 : g26 6 = .ref (cp_b G + 30)) (H30 : h 30 = .inl (cp_cI G, 26, .inl f30)) (Z30 : f30 = fun _ => 0) (E26_16 : g26 16 = .int 0) (E26_1 : g26 1 = .int 0) (E26_23 : g26 23 = .int 0) (E26_30 : g26 30 = .ref (cp_b G + 49)) (H49 : h 49 = .inl (cp_cI G, 400, .inl f49)) (E26_31 : g26 31 = .ref (cp_b G + 50)) (H50 : h 50 = .inl (cp_cI G, 400, .inl f50)) (E26_32 : g26 32 = .ref (cp_b G + 51)) (H51 : h 51 = .inl (cp_cI G, 400, .inl f51)) (E26_34 : g26 34 = .int 0) : cp_C G d m_M_program [.ref (cp_b G + 26), .int c] h 87 z (some (.int (-1))) (va_up (va_up (va_up (va_up (va_up (va_up (va_up (va_up (va_up (va_up h 26 (.inr (11, (va_up g26 0 (.int 0))))) 26 (.inr (11, (va_up (va_up g26 0 (.int 0)) 1 (.int 0))))) 26 (.inr (11, (va_up (va_up (va_up g26 0 (.int 0)) 1 (.int 0)) 29 (.int 0))))) 26 (.inr (11, (va_up (va_up (va_up (va_up g26 0 (.int 0)) 1 (.int 0)) 29 (.int 0)) 33 (.int 0))))) 26 (.inr (11, (va_up (va_up (va_up (va_up (va_up g26 0 (.int 0)) 1 (.int 0)) 29 (.int 0)) 33 (.int 0)) 20 (.int 0))))) 49 (.inl (cp_cI G, 400, .inl (upd f49 0 209)))) 50 (.inl (cp_cI G, 400, .inl (upd f50 0 0)))) 51 (.inl (cp_cI G, 400, .inl (upd f51 0 0)))) 26 (.inr (11, (va_up (va_up (va_up (va_up (va_up (va_up g26 0 (.int 0)) 1 (.int 0)) 29 (.int 0)) 33 (.int 0)) 20 (.int 0)) 29 (.int 1))))) 26 (.inr (11, (va_up (va_up (va_up (va_up (va_up (va_up (va_up g26 0 (.int 0)) 1 (.int 0)) 29 (.int 0)) 33 (.int 0)) 20 (.int 0)) 29 (.int 1)) 16 (.int 0))))) 87 (z + 0) := by
  refine cp_C.of rfl (Nat.le_of_ble_eq_true rfl) ?_
  refine vv_aload_n (pc := 0) d_M_program_0 rfl ?_
  refine vv_iload_n (pc := 1) d_M_program_1 rfl ?_
  refine vv_callV (pc := 2) (As := [.int c]) d_M_program_2 (x_M_mayName_6 (c := c) hc1 hc2 hc3 hc4 hc5 (d := d - 1) (by omega) H26 E26_6 H30 Z30) k_M_mayName ml_M_425.1 ml_M_425.2.1 ml_M_425.2.2.1 ml_M_425.2.2.2.1 ml_M_425.2.2.2.2 (by decide) H26 (by omega) (Nat.le_of_ble_eq_true rfl) ?_
  refine vv_if_ne (pc := 5) (tgt := 10) d_M_program_5 rfl (fun _ => ?_) (fun hc => absurd hc (by decide +kernel))
  refine vv_iload_n (pc := 10) d_M_program_10 rfl ?_
  refine vv_bipush (pc := 11) (v := 65) d_M_program_11 rfl ?_
  refine vv_isub (pc := 13) d_M_program_13 ?_
  refine vv_istore_n (pc := 14) d_M_program_14 (Nat.le_of_ble_eq_true rfl) ?_
  refine vv_aload_n (pc := 15) d_M_program_15 rfl ?_
  refine vv_getf (pc := 16) d_M_program_16 fl_M_194 (by decide) rfl E26_16 ?_
  refine vv_istore_n (pc := 19) d_M_program_19 (Nat.le_of_ble_eq_true rfl) ?_
  refine vv_aload_n (pc := 20) d_M_program_20 rfl ?_
  refine vv_sipush (pc := 21) (v := 209) d_M_program_21 rfl ?_
  refine vv_iconst (pc := 24) (v := 0) d_M_program_24 rfl ?_
  refine vv_iconst (pc := 25) (v := 0) d_M_program_25 rfl ?_
  refine vv_callV (pc := 26) (As := [.int 209, .int 0, .int 0]) d_M_program_26 (x_M_read_3 (c := c) hc1 hc2 hc3 hc4 hc5 (d := d - 1) (by omega) rfl E26_1 E26_23 E26_16 E26_30 H49 E26_31 H50 E26_32 H51) k_M_read ml_M_429.1 ml_M_429.2.1 ml_M_429.2.2.1 ml_M_429.2.2.2.1 ml_M_429.2.2.2.2 (by decide) rfl (by omega) (Nat.le_of_ble_eq_true rfl) ?_
  refine vv_istore (pc := 29) d_M_program_29 (Nat.le_of_ble_eq_true rfl) ?_
  refine vv_aload_n (pc := 31) d_M_program_31 rfl ?_
  refine vv_getf (pc := 32) d_M_program_32 fl_M_243 (by decide) rfl E26_34 ?_
  refine vv_istore (pc := 35) d_M_program_35 (Nat.le_of_ble_eq_true rfl) ?_
  refine vv_iload (pc := 37) d_M_program_37 rfl ?_
  refine vv_if_ge (pc := 39) (tgt := 53) d_M_program_39 rfl (fun _ => ?_) (fun hc => absurd (by decide +kernel) hc)
  refine vv_aload_n (pc := 53) d_M_program_53 rfl ?_
  refine vv_iload_n (pc := 54) d_M_program_54 rfl ?_
  refine vv_putf (pc := 55) d_M_program_55 fl_M_194 (by decide) rfl rfl rfl rfl ?_
  refine vv_iload (pc := 58) d_M_program_58 rfl ?_
  refine vv_if_lt (pc := 60) (tgt := 70) d_M_program_60 rfl (fun hc => absurd hc (by decide +kernel)) (fun _ => ?_)
  refine vv_iconst (pc := 63) (v := (-1)) d_M_program_63 rfl ?_
  refine vv_iload (pc := 64) d_M_program_64 rfl ?_
  refine vv_isub (pc := 66) d_M_program_66 ?_
  refine vv_topi (y := (-1)) (by decide +kernel) ?_
  refine vv_goto (pc := 67) (tgt := 77) d_M_program_67 rfl ?_
  exact vv_iret (pc := 77) d_M_program_77 rfl
theorem x_M_thrown_7 {G : cp_G} {h : Nat → cp_E} {z d : Nat} {g26 : Nat → Value} {c : Int32} (hc1 : ¬ c < 65) (hc2 : ¬ 90 < c) (hc3 : ¬ c - 65 < 0) (hc4 : ¬ 26 ≤ c - 65) (hc5 : vp_in (c - 65) 26) (hd : 0 ≤ d) (H26 : h 26 = .inr (11, g26)) (E26_0 : g26 0 = .int 0) : cp_C G d m_M_thrown [.ref (cp_b G + 26)] h 87 z (some (.int 0)) h 87 (z + 0) := by
  refine cp_C.of rfl (Nat.le_of_ble_eq_true rfl) ?_
  refine vv_aload_n (pc := 0) d_M_thrown_0 rfl ?_
  refine vv_getf (pc := 1) d_M_thrown_1 fl_M_184 (by decide) H26 E26_0 ?_
  exact vv_iret (pc := 4) d_M_thrown_4 rfl
theorem p_law_3_le {G : cp_G} {h : Nat → cp_E} {z d bb : Nat} {xs : Nat → Int32} {g0 g3 g21 g6 g7 g14 g15 g17 g19 g26 : Nat → Value} {f1 f30 f49 f50 f51 : Nat → Int32} {c : Int32} (hc1 : ¬ c < 65) (hc2 : ¬ 90 < c) (hc3 : ¬ c - 65 < 0) (hc4 : ¬ 26 ≤ c - 65) (hc5 : vp_in (c - 65) 26) (hS : cp_scr G bb 2 xs) (hcx : ((xs 1).toUInt32 % 65536).toInt32 = c) (hd : 5 ≤ d) (H0 : h 0 = .inr (0, g0)) (E0_4 : g0 4 = .ref (cp_b G + 3)) (H3 : h 3 = .inr (1, g3)) (E3_0 : g3 0 = .ref (cp_b G + 4)) (H4 : h 4 = .inl (cp_cE G, 26, .inr (.inr (.inr (.inr (fun _ => none)))))) (E0_7 : g0 7 = .ref (cp_b G + 21)) (E0_0 : g0 0 = .ref (cp_b G + 1)) (E0_1 : g0 1 = .int 0) (H21 : h 21 = .inr (5, g21)) (H1 : h 1 = .inl (cp_cC G, 80, .inl f1)) (E0_5 : g0 5 = .ref (cp_b G + 6)) (H6 : h 6 = .inr (2, g6)) (E6_0 : g6 0 = .ref (cp_b G + 7)) (H7 : h 7 = .inr (3, g7)) (E7_1 : g7 1 = .int 0) (E0_6 : g0 6 = .ref (cp_b G + 14)) (H14 : h 14 = .inr (4, g14)) (E14_0 : g14 0 = .ref (cp_b G + 15)) (H15 : h 15 = .inr (3, g15)) (E15_1 : g15 1 = .int 0) (E14_1 : g14 1 = .ref (cp_b G + 17)) (H17 : h 17 = .inr (3, g17)) (E17_1 : g17 1 = .int 0) (E14_2 : g14 2 = .ref (cp_b G + 19)) (H19 : h 19 = .inr (3, g19)) (E19_1 : g19 1 = .int 0) (H85 : h 85 = .inl (cp_cL G, 1, .inr (.inl (fun _ => 0)))) (H26 : h 26 = .inr (11, g26)) (E26_6 : g26 6 = .ref (cp_b G + 30)) (H30 : h 30 = .inl (cp_cI G, 26, .inl f30)) (Z30 : f30 = fun _ => 0) (E26_16 : g26 16 = .int 0) (E26_1 : g26 1 = .int 0) (E26_23 : g26 23 = .int 0) (E26_30 : g26 30 = .ref (cp_b G + 49)) (H49 : h 49 = .inl (cp_cI G, 400, .inl f49)) (E26_31 : g26 31 = .ref (cp_b G + 50)) (H50 : h 50 = .inl (cp_cI G, 400, .inl f50)) (E26_32 : g26 32 = .ref (cp_b G + 51)) (H51 : h 51 = .inl (cp_cI G, 400, .inl f51)) (E26_34 : g26 34 = .int 0) : cp_V G m_law d 0 0 (.inl (some (.int 1))) (va_up (va_up (va_up (va_up (va_up (va_up (va_up (va_up (va_up (va_up (va_up (va_up (va_up (va_up (va_up (va_up (va_up (va_up (va_up (va_up (va_up (va_up (va_up h 21 (.inr (5, (va_up g21 0 (.ref (cp_b G + 1)))))) 21 (.inr (5, (va_up (va_up g21 0 (.ref (cp_b G + 1))) 1 (.int 0))))) 21 (.inr (5, (va_up (va_up (va_up g21 0 (.ref (cp_b G + 1))) 1 (.int 0)) 2 (.int 0))))) 0 (.inr (0, (va_up g0 1 (.int 0))))) 86 (.inr (9, (fun k => defaultValue (cp_ty 9 k))))) 86 (.inr (9, (va_up (fun k => defaultValue (cp_ty 9 k)) 0 (.int 17))))) 86 (.inr (9, (va_up (va_up (fun k => defaultValue (cp_ty 9 k)) 0 (.int 17)) 1 (.int 0))))) 86 (.inr (9, (va_up (va_up (va_up (fun k => defaultValue (cp_ty 9 k)) 0 (.int 17)) 1 (.int 0)) 2 (.int 0))))) 86 (.inr (9, (va_up (va_up (va_up (va_up (fun k => defaultValue (cp_ty 9 k)) 0 (.int 17)) 1 (.int 0)) 2 (.int 0)) 3 (.int 0))))) 86 (.inr (9, (va_up (va_up (va_up (va_up (va_up (fun k => defaultValue (cp_ty 9 k)) 0 (.int 17)) 1 (.int 0)) 2 (.int 0)) 3 (.int 0)) 4 (.null))))) 86 (.inr (9, (va_up (va_up (va_up (va_up (va_up (va_up (fun k => defaultValue (cp_ty 9 k)) 0 (.int 17)) 1 (.int 0)) 2 (.int 0)) 3 (.int 0)) 4 (.null)) 5 (.null))))) 86 (.inr (9, (va_up (va_up (va_up (va_up (va_up (va_up (va_up (fun k => defaultValue (cp_ty 9 k)) 0 (.int 17)) 1 (.int 0)) 2 (.int 0)) 3 (.int 0)) 4 (.null)) 5 (.null)) 6 (.null))))) 85 (.inl (cp_cL G, 1, .inr (.inl (vp_updL (fun _ => 0) (0 : Int32).toNatClampNeg (-1)))))) 26 (.inr (11, (va_up g26 0 (.int 0))))) 26 (.inr (11, (va_up (va_up g26 0 (.int 0)) 1 (.int 0))))) 26 (.inr (11, (va_up (va_up (va_up g26 0 (.int 0)) 1 (.int 0)) 29 (.int 0))))) 26 (.inr (11, (va_up (va_up (va_up (va_up g26 0 (.int 0)) 1 (.int 0)) 29 (.int 0)) 33 (.int 0))))) 26 (.inr (11, (va_up (va_up (va_up (va_up (va_up g26 0 (.int 0)) 1 (.int 0)) 29 (.int 0)) 33 (.int 0)) 20 (.int 0))))) 49 (.inl (cp_cI G, 400, .inl (upd f49 0 209)))) 50 (.inl (cp_cI G, 400, .inl (upd f50 0 0)))) 51 (.inl (cp_cI G, 400, .inl (upd f51 0 0)))) 26 (.inr (11, (va_up (va_up (va_up (va_up (va_up (va_up g26 0 (.int 0)) 1 (.int 0)) 29 (.int 0)) 33 (.int 0)) 20 (.int 0)) 29 (.int 1))))) 26 (.inr (11, (va_up (va_up (va_up (va_up (va_up (va_up (va_up g26 0 (.int 0)) 1 (.int 0)) 29 (.int 0)) 33 (.int 0)) 20 (.int 0)) 29 (.int 1)) 16 (.int 0))))) 87 (z + 7) 202 [(4, .int 0), (3, .ref (cp_b G + 85)), (2, .ref (cp_b G + 26)), (1, .ref (cp_b G + 0)), (0, .ref bb)] [] h 86 z := by
  refine vv_aload_n (pc := 202) d_law_202 rfl ?_
  refine vv_aload_n (pc := 203) d_law_203 rfl ?_
  refine vv_iload (pc := 204) d_law_204 rfl ?_
  refine vv_iconst (pc := 206) (v := 1) d_law_206 rfl ?_
  refine vv_iadd (pc := 207) d_law_207 ?_
  refine vv_topi (y := 1) (by decide +kernel) ?_
  refine vv_sld (pc := 208) hS d_law_208 (by unfold vp_in; decide +kernel) ?_
  refine vv_topi (y := xs 1) (congrArg xs (by decide +kernel)) ?_
  refine vv_i2c (pc := 209) d_law_209 ?_
  refine vv_topi (y := c) hcx ?_
  refine vv_aload_n (pc := 210) d_law_210 rfl ?_
  refine vv_callSW (pc := 211) (As := [.ref (cp_b G + 0), .int c, .ref (cp_b G + 85)]) (hh := [(0, 9, 12, 13), (0, 9, 15, 15)]) d_law_211 (x_L_program_3 (c := c) hc1 hc2 hc3 hc4 hc5 (d := d - 1) (by omega) H0 E0_4 H3 E3_0 H4 E0_7 E0_0 E0_1 H21 H1 E0_5 H6 E6_0 H7 E7_1 E0_6 H14 E14_0 H15 E15_1 E14_1 H17 E17_1 E14_2 H19 E19_1 H85) cw_L_program ci_L_program (by decide) ⟨by decide, by decide⟩ cn_L_program ml_L_54.1 ml_L_54.2 (by omega) (Nat.le_of_ble_eq_true rfl) ?_
  refine vv_istore (pc := 214) d_law_214 (Nat.le_of_ble_eq_true rfl) ?_
  refine vv_aload_n (pc := 216) d_law_216 rfl ?_
  refine vv_aload_n (pc := 217) d_law_217 rfl ?_
  refine vv_iload (pc := 218) d_law_218 rfl ?_
  refine vv_iconst (pc := 220) (v := 1) d_law_220 rfl ?_
  refine vv_iadd (pc := 221) d_law_221 ?_
  refine vv_topi (y := 1) (by decide +kernel) ?_
  refine vv_sld (pc := 222) hS d_law_222 (by unfold vp_in; decide +kernel) ?_
  refine vv_topi (y := xs 1) (congrArg xs (by decide +kernel)) ?_
  refine vv_i2c (pc := 223) d_law_223 ?_
  refine vv_topi (y := c) hcx ?_
  refine vv_callV (pc := 224) (As := [.int c]) d_law_224 (x_M_program_3 (c := c) hc1 hc2 hc3 hc4 hc5 (d := d - 1) (by omega) H26 E26_6 H30 Z30 E26_16 E26_1 E26_23 E26_30 H49 E26_31 H50 E26_32 H51 E26_34) k_M_program ml_L_56.1 ml_L_56.2.1 ml_L_56.2.2.1 ml_L_56.2.2.2.1 ml_L_56.2.2.2.2 (by decide) H26 (by omega) (Nat.le_of_ble_eq_true rfl) ?_
  refine vv_istore (pc := 227) d_law_227 (Nat.le_of_ble_eq_true rfl) ?_
  refine vv_aload_n (pc := 229) d_law_229 rfl ?_
  refine vv_callV (pc := 230) (As := []) d_law_230 (x_M_thrown_7 (c := c) hc1 hc2 hc3 hc4 hc5 (d := d - 1) (by omega) rfl rfl) k_M_thrown ml_L_51.1 ml_L_51.2.1 ml_L_51.2.2.1 ml_L_51.2.2.2.1 ml_L_51.2.2.2.2 (by decide) rfl (by omega) (Nat.le_of_ble_eq_true rfl) ?_
  refine vv_iload (pc := 233) d_law_233 rfl ?_
  refine vv_icmp_eq (pc := 235) (tgt := 240) d_law_235 rfl (fun _ => ?_) (fun hc => absurd (by decide +kernel) hc)
  refine vv_iload (pc := 240) d_law_240 rfl ?_
  refine vv_if_ne (pc := 242) (tgt := 257) d_law_242 rfl (fun hc => absurd (by decide +kernel) hc) (fun _ => ?_)
  refine vv_aload_n (pc := 245) d_law_245 rfl ?_
  refine vv_iconst (pc := 246) (v := 0) d_law_246 rfl ?_
  refine vv_lald (pc := 247) d_law_247 (by decide) rfl (by unfold vp_in; decide +kernel) ?_
  refine vv_iload (pc := 248) d_law_248 rfl ?_
  refine vv_i2l (pc := 250) d_law_250 ?_
  refine vv_lcmp (pc := 251) d_law_251 ?_
  refine vv_topi (y := 0) (by decide +kernel) ?_
  refine vv_if_eq (pc := 252) (tgt := 257) d_law_252 rfl (fun _ => ?_) (fun hc => absurd (by decide +kernel) hc)
  refine vv_goto (pc := 257) (tgt := 518) d_law_257 rfl ?_
  refine vv_iinc (pc := 518) (v := 2) d_law_518 rfl (by decide +kernel) (Nat.le_of_ble_eq_true rfl) ?_
  refine vv_goto (pc := 521) (tgt := 23) d_law_521 rfl ?_
  refine vv_iload (pc := 23) d_law_23 rfl ?_
  refine vv_aload_n (pc := 25) d_law_25 rfl ?_
  refine vv_slen (pc := 26) hS d_law_26 ?_
  refine vv_topi (y := 2) (by decide +kernel) ?_
  refine vv_iconst (pc := 27) (v := 2) d_law_27 rfl ?_
  refine vv_isub (pc := 28) d_law_28 ?_
  refine vv_topi (y := 0) (by decide +kernel) ?_
  refine vv_icmp_gt (pc := 29) (tgt := 524) d_law_29 rfl (fun _ => ?_) (fun hc => absurd (by decide +kernel) hc)
  refine vv_iconst (pc := 524) (v := 1) d_law_524 rfl ?_
  exact vv_zret (pc := 525) d_law_525 rfl rfl
theorem x_P_isLetter_9 {G : cp_G} {h : Nat → cp_E} {z d : Nat} {c : Int32} (hc1 : c < 65) (hc2 : c - 65 < 0) (hd : 0 ≤ d) : cp_C G d m_P_isLetter [.int c] h 86 z (some (.int 0)) h 86 (z + 0) := by
  refine cp_C.of rfl (Nat.le_of_ble_eq_true rfl) ?_
  refine vv_iload_n (pc := 0) d_P_isLetter_0 rfl ?_
  refine vv_bipush (pc := 1) (v := 65) d_P_isLetter_1 rfl ?_
  refine vv_icmp_lt (pc := 3) (tgt := 16) d_P_isLetter_3 rfl (fun _ => ?_) (fun hc => absurd hc1 hc)
  refine vv_iconst (pc := 16) (v := 0) d_P_isLetter_16 rfl ?_
  exact vv_zret (pc := 17) d_P_isLetter_17 rfl rfl
theorem x_P_refuseUnlessFree_7 {G : cp_G} {h : Nat → cp_E} {z d : Nat} {c : Int32} (hc1 : c < 65) (hc2 : c - 65 < 0) (hd : 6 ≤ d) : cp_CT G d m_P_refuseUnlessFree [.ref (cp_b G + 0), .int c] h 86 z 12 86 (va_up h 86 cp_junk) 87 (z + 6) := by
  refine cp_CT.of rfl (Nat.le_of_ble_eq_true rfl) ?_
  refine vv_iload_n (pc := 0) d_P_refuseUnlessFree_0 rfl ?_
  refine vv_callS (pc := 1) (As := [.int c]) d_P_refuseUnlessFree_1 (x_P_isLetter_9 (c := c) hc1 hc2 (d := d - 1) (by omega)) k_P_isLetter ml_P_200.1 ml_P_200.2 (by omega) (Nat.le_of_ble_eq_true rfl) ?_
  refine vv_if_ne (pc := 4) (tgt := 17) d_P_refuseUnlessFree_4 rfl (fun hc => absurd (by decide +kernel) hc) (fun _ => ?_)
  exact vv_throw (pc := 7) (tx := "not a letter A .. Z") d_P_refuseUnlessFree_7 d_P_refuseUnlessFree_10 d_P_refuseUnlessFree_11 d_P_refuseUnlessFree_13 d_P_refuseUnlessFree_16 cp_ok12 cl_P_176 rfl cp_thr12 (by decide) cp_fit12 (by omega) (Nat.le_of_ble_eq_true rfl) k_P_refuseUnlessFree.1
theorem x_P_lemma {G : cp_G} {h : Nat → cp_E} {z d : Nat} {g0 : Nat → Value} {c : Int32} (hc1 : c < 65) (hc2 : c - 65 < 0) (hd : 7 ≤ d) (H0 : h 0 = .inr (0, g0)) : cp_CT G d m_P_lemma [.ref (cp_b G + 0), .int c] h 86 z 12 86 (va_up h 86 cp_junk) 87 (z + 6) := by
  refine cp_CT.of rfl (Nat.le_of_ble_eq_true rfl) ?_
  refine vv_aload_n (pc := 0) d_P_lemma_0 rfl ?_
  refine vv_iload_n (pc := 1) d_P_lemma_1 rfl ?_
  exact vv_thV (pc := 2) (As := [.int c]) d_P_lemma_2 (x_P_refuseUnlessFree_7 (c := c) hc1 hc2 (d := d - 1) (by omega)) k_P_refuseUnlessFree ml_P_86.1 ml_P_86.2.1 ml_P_86.2.2.1 ml_P_86.2.2.2.1 ml_P_86.2.2.2.2 (by decide) H0 (by omega) (Nat.le_of_ble_eq_true rfl) k_P_lemma.1
theorem x_L_lemma {G : cp_G} {h : Nat → cp_E} {z d : Nat} {g0 : Nat → Value} {c : Int32} (hc1 : c < 65) (hc2 : c - 65 < 0) (hd : 8 ≤ d) (H0 : h 0 = .inr (0, g0)) : cp_CW G d m_L_lemma [(0, 5, 8, 13), (0, 5, 11, 15)] [.ref (cp_b G + 0), .int c] h 86 z (some (.int 1)) (va_up h 86 cp_junk) 87 (z + 6) := by
  refine cp_CW.of rfl (Nat.le_of_ble_eq_true rfl) ?_
  refine vv_aload_n (pc := 0) d_L_lemma_0 rfl ?_
  refine vv_iload_n (pc := 1) d_L_lemma_1 rfl ?_
  refine vv_catch (pc := 2) (As := [.int c]) (hh := [(0, 5, 8, 13), (0, 5, 11, 15)]) (hpc := 8) d_L_lemma_2 (x_P_lemma (c := c) hc1 hc2 (d := d - 1) (by omega) H0) k_P_lemma ml_L_20.1 ml_L_20.2.1 ml_L_20.2.2.1 ml_L_20.2.2.2.1 ml_L_20.2.2.2.2 (by decide) H0 (by omega) (Nat.le_of_ble_eq_true rfl) (List.mem_of_getElem? (i := 2) rfl) rfl cl_L_13 cl_L_15 rfl ?_
  refine vv_astore_n (pc := 8) d_L_lemma_8 cp_isr_r (Nat.le_of_ble_eq_true rfl) ?_
  refine vv_iconst (pc := 9) (v := 1) d_L_lemma_9 rfl ?_
  exact vv_iret (pc := 10) d_L_lemma_10 rfl
theorem x_M_isLetter_7 {G : cp_G} {h : Nat → cp_E} {z d : Nat} {c : Int32} (hc1 : c < 65) (hc2 : c - 65 < 0) (hd : 0 ≤ d) : cp_C G d m_M_isLetter [.int c] h 87 z (some (.int 0)) h 87 (z + 0) := by
  refine cp_C.of rfl (Nat.le_of_ble_eq_true rfl) ?_
  refine vv_iload_n (pc := 0) d_M_isLetter_0 rfl ?_
  refine vv_bipush (pc := 1) (v := 65) d_M_isLetter_1 rfl ?_
  refine vv_icmp_lt (pc := 3) (tgt := 16) d_M_isLetter_3 rfl (fun _ => ?_) (fun hc => absurd hc1 hc)
  refine vv_iconst (pc := 16) (v := 0) d_M_isLetter_16 rfl ?_
  exact vv_zret (pc := 17) d_M_isLetter_17 rfl rfl
theorem x_M_mayName_7 {G : cp_G} {h : Nat → cp_E} {z d : Nat} {g26 : Nat → Value} {c : Int32} (hc1 : c < 65) (hc2 : c - 65 < 0) (hd : 1 ≤ d) (H26 : h 26 = .inr (11, g26)) : cp_C G d m_M_mayName [.ref (cp_b G + 26), .int c] h 87 z (some (.int 0)) (va_up h 26 (.inr (11, (va_up g26 0 (.int 1))))) 87 (z + 0) := by
  refine cp_C.of rfl (Nat.le_of_ble_eq_true rfl) ?_
  refine vv_aload_n (pc := 0) d_M_mayName_0 rfl ?_
  refine vv_iload_n (pc := 1) d_M_mayName_1 rfl ?_
  refine vv_callS (pc := 2) (As := [.int c]) d_M_mayName_2 (x_M_isLetter_7 (c := c) hc1 hc2 (d := d - 1) (by omega)) k_M_isLetter ml_M_215.1 ml_M_215.2 (by omega) (Nat.le_of_ble_eq_true rfl) ?_
  refine vv_if_ne (pc := 5) (tgt := 12) d_M_mayName_5 rfl (fun hc => absurd (by decide +kernel) hc) (fun _ => ?_)
  refine vv_iconst (pc := 8) (v := 1) d_M_mayName_8 rfl ?_
  refine vv_goto (pc := 9) (tgt := 29) d_M_mayName_9 rfl ?_
  refine vv_putf (pc := 29) d_M_mayName_29 fl_M_184 (by decide) H26 rfl rfl rfl ?_
  refine vv_aload_n (pc := 32) d_M_mayName_32 rfl ?_
  refine vv_getf (pc := 33) d_M_mayName_33 fl_M_184 (by decide) rfl rfl ?_
  refine vv_if_ne (pc := 36) (tgt := 43) d_M_mayName_36 rfl (fun _ => ?_) (fun hc => absurd hc (by decide +kernel))
  refine vv_iconst (pc := 43) (v := 0) d_M_mayName_43 rfl ?_
  exact vv_zret (pc := 44) d_M_mayName_44 rfl rfl
theorem x_M_lemma {G : cp_G} {h : Nat → cp_E} {z d : Nat} {g26 : Nat → Value} {c : Int32} (hc1 : c < 65) (hc2 : c - 65 < 0) (hd : 2 ≤ d) (H26 : h 26 = .inr (11, g26)) : cp_C G d m_M_lemma [.ref (cp_b G + 26), .int c] h 87 z none (va_up (va_up h 26 (.inr (11, (va_up g26 0 (.int 1))))) 26 (.inr (11, (va_up (va_up g26 0 (.int 1)) 0 (.int 1))))) 87 (z + 0) := by
  refine cp_C.of rfl (Nat.le_of_ble_eq_true rfl) ?_
  refine vv_aload_n (pc := 0) d_M_lemma_0 rfl ?_
  refine vv_iload_n (pc := 1) d_M_lemma_1 rfl ?_
  refine vv_callV (pc := 2) (As := [.int c]) d_M_lemma_2 (x_M_mayName_7 (c := c) hc1 hc2 (d := d - 1) (by omega) H26) k_M_mayName ml_M_425.1 ml_M_425.2.1 ml_M_425.2.2.1 ml_M_425.2.2.2.1 ml_M_425.2.2.2.2 (by decide) H26 (by omega) (Nat.le_of_ble_eq_true rfl) ?_
  refine vv_istore_n (pc := 5) d_M_lemma_5 (Nat.le_of_ble_eq_true rfl) ?_
  refine vv_aload_n (pc := 6) d_M_lemma_6 rfl ?_
  refine vv_aload_n (pc := 7) d_M_lemma_7 rfl ?_
  refine vv_getf (pc := 8) d_M_lemma_8 fl_M_184 (by decide) rfl rfl ?_
  refine vv_iconst (pc := 11) (v := 1) d_M_lemma_11 rfl ?_
  refine vv_icmp_ne (pc := 12) (tgt := 19) d_M_lemma_12 rfl (fun hc => absurd (by decide +kernel) hc) (fun _ => ?_)
  refine vv_iconst (pc := 15) (v := 1) d_M_lemma_15 rfl ?_
  refine vv_goto (pc := 16) (tgt := 42) d_M_lemma_16 rfl ?_
  refine vv_putf (pc := 42) d_M_lemma_42 fl_M_184 (by decide) rfl rfl rfl rfl ?_
  refine vv_aload_n (pc := 45) d_M_lemma_45 rfl ?_
  refine vv_getf (pc := 46) d_M_lemma_46 fl_M_184 (by decide) rfl rfl ?_
  refine vv_if_le (pc := 49) (tgt := 53) d_M_lemma_49 rfl (fun hc => absurd hc (by decide +kernel)) (fun _ => ?_)
  exact vv_vret (pc := 52) d_M_lemma_52 rfl
theorem x_M_thrown_8 {G : cp_G} {h : Nat → cp_E} {z d : Nat} {g26 : Nat → Value} {c : Int32} (hc1 : c < 65) (hc2 : c - 65 < 0) (hd : 0 ≤ d) (H26 : h 26 = .inr (11, g26)) (E26_0 : g26 0 = .int 1) : cp_C G d m_M_thrown [.ref (cp_b G + 26)] h 87 z (some (.int 1)) h 87 (z + 0) := by
  refine cp_C.of rfl (Nat.le_of_ble_eq_true rfl) ?_
  refine vv_aload_n (pc := 0) d_M_thrown_0 rfl ?_
  refine vv_getf (pc := 1) d_M_thrown_1 fl_M_184 (by decide) H26 E26_0 ?_
  exact vv_iret (pc := 4) d_M_thrown_4 rfl
theorem p_law_5_lo {G : cp_G} {h : Nat → cp_E} {z d bb : Nat} {xs : Nat → Int32} {g0 g26 : Nat → Value} {c : Int32} (hc1 : c < 65) (hc2 : c - 65 < 0) (hS : cp_scr G bb 2 xs) (hcx : ((xs 1).toUInt32 % 65536).toInt32 = c) (hd : 9 ≤ d) (H0 : h 0 = .inr (0, g0)) (H26 : h 26 = .inr (11, g26)) : cp_V G m_law d 0 0 (.inl (some (.int 1))) (va_up (va_up (va_up h 86 cp_junk) 26 (.inr (11, (va_up g26 0 (.int 1))))) 26 (.inr (11, (va_up (va_up g26 0 (.int 1)) 0 (.int 1))))) 87 (z + 6) 273 [(4, .int 0), (3, .ref (cp_b G + 85)), (2, .ref (cp_b G + 26)), (1, .ref (cp_b G + 0)), (0, .ref bb)] [] h 86 z := by
  refine vv_aload_n (pc := 273) d_law_273 rfl ?_
  refine vv_aload_n (pc := 274) d_law_274 rfl ?_
  refine vv_iload (pc := 275) d_law_275 rfl ?_
  refine vv_iconst (pc := 277) (v := 1) d_law_277 rfl ?_
  refine vv_iadd (pc := 278) d_law_278 ?_
  refine vv_topi (y := 1) (by decide +kernel) ?_
  refine vv_sld (pc := 279) hS d_law_279 (by unfold vp_in; decide +kernel) ?_
  refine vv_topi (y := xs 1) (congrArg xs (by decide +kernel)) ?_
  refine vv_i2c (pc := 280) d_law_280 ?_
  refine vv_topi (y := c) hcx ?_
  refine vv_callSW (pc := 281) (As := [.ref (cp_b G + 0), .int c]) (hh := [(0, 5, 8, 13), (0, 5, 11, 15)]) d_law_281 (x_L_lemma (c := c) hc1 hc2 (d := d - 1) (by omega) H0) cw_L_lemma ci_L_lemma (by decide) ⟨by decide, by decide⟩ cn_L_lemma ml_L_61.1 ml_L_61.2 (by omega) (Nat.le_of_ble_eq_true rfl) ?_
  refine vv_istore (pc := 284) d_law_284 (Nat.le_of_ble_eq_true rfl) ?_
  refine vv_aload_n (pc := 286) d_law_286 rfl ?_
  refine vv_aload_n (pc := 287) d_law_287 rfl ?_
  refine vv_iload (pc := 288) d_law_288 rfl ?_
  refine vv_iconst (pc := 290) (v := 1) d_law_290 rfl ?_
  refine vv_iadd (pc := 291) d_law_291 ?_
  refine vv_topi (y := 1) (by decide +kernel) ?_
  refine vv_sld (pc := 292) hS d_law_292 (by unfold vp_in; decide +kernel) ?_
  refine vv_topi (y := xs 1) (congrArg xs (by decide +kernel)) ?_
  refine vv_i2c (pc := 293) d_law_293 ?_
  refine vv_topi (y := c) hcx ?_
  refine vv_callV (pc := 294) (As := [.int c]) d_law_294 (x_M_lemma (c := c) hc1 hc2 (d := d - 1) (by omega) H26) k_M_lemma ml_L_64.1 ml_L_64.2.1 ml_L_64.2.2.1 ml_L_64.2.2.2.1 ml_L_64.2.2.2.2 (by decide) H26 (by omega) (Nat.le_of_ble_eq_true rfl) ?_
  refine vv_aload_n (pc := 297) d_law_297 rfl ?_
  refine vv_callV (pc := 298) (As := []) d_law_298 (x_M_thrown_8 (c := c) hc1 hc2 (d := d - 1) (by omega) rfl rfl) k_M_thrown ml_L_51.1 ml_L_51.2.1 ml_L_51.2.2.1 ml_L_51.2.2.2.1 ml_L_51.2.2.2.2 (by decide) rfl (by omega) (Nat.le_of_ble_eq_true rfl) ?_
  refine vv_iload (pc := 301) d_law_301 rfl ?_
  refine vv_icmp_eq (pc := 303) (tgt := 308) d_law_303 rfl (fun _ => ?_) (fun hc => absurd (by decide +kernel) hc)
  refine vv_goto (pc := 308) (tgt := 518) d_law_308 rfl ?_
  refine vv_iinc (pc := 518) (v := 2) d_law_518 rfl (by decide +kernel) (Nat.le_of_ble_eq_true rfl) ?_
  refine vv_goto (pc := 521) (tgt := 23) d_law_521 rfl ?_
  refine vv_iload (pc := 23) d_law_23 rfl ?_
  refine vv_aload_n (pc := 25) d_law_25 rfl ?_
  refine vv_slen (pc := 26) hS d_law_26 ?_
  refine vv_topi (y := 2) (by decide +kernel) ?_
  refine vv_iconst (pc := 27) (v := 2) d_law_27 rfl ?_
  refine vv_isub (pc := 28) d_law_28 ?_
  refine vv_topi (y := 0) (by decide +kernel) ?_
  refine vv_icmp_gt (pc := 29) (tgt := 524) d_law_29 rfl (fun _ => ?_) (fun hc => absurd (by decide +kernel) hc)
  refine vv_iconst (pc := 524) (v := 1) d_law_524 rfl ?_
  exact vv_zret (pc := 525) d_law_525 rfl rfl
theorem x_P_isLetter_10 {G : cp_G} {h : Nat → cp_E} {z d : Nat} {c : Int32} (hc1 : ¬ c < 65) (hc2 : 90 < c) (hc3 : ¬ c - 65 < 0) (hc4 : 26 ≤ c - 65) (hd : 0 ≤ d) : cp_C G d m_P_isLetter [.int c] h 86 z (some (.int 0)) h 86 (z + 0) := by
  refine cp_C.of rfl (Nat.le_of_ble_eq_true rfl) ?_
  refine vv_iload_n (pc := 0) d_P_isLetter_0 rfl ?_
  refine vv_bipush (pc := 1) (v := 65) d_P_isLetter_1 rfl ?_
  refine vv_icmp_lt (pc := 3) (tgt := 16) d_P_isLetter_3 rfl (fun hc => absurd hc hc1) (fun _ => ?_)
  refine vv_iload_n (pc := 6) d_P_isLetter_6 rfl ?_
  refine vv_bipush (pc := 7) (v := 90) d_P_isLetter_7 rfl ?_
  refine vv_icmp_gt (pc := 9) (tgt := 16) d_P_isLetter_9 rfl (fun _ => ?_) (fun hc => absurd hc2 hc)
  refine vv_iconst (pc := 16) (v := 0) d_P_isLetter_16 rfl ?_
  exact vv_zret (pc := 17) d_P_isLetter_17 rfl rfl
theorem x_P_refuseUnlessFree_8 {G : cp_G} {h : Nat → cp_E} {z d : Nat} {c : Int32} (hc1 : ¬ c < 65) (hc2 : 90 < c) (hc3 : ¬ c - 65 < 0) (hc4 : 26 ≤ c - 65) (hd : 6 ≤ d) : cp_CT G d m_P_refuseUnlessFree [.ref (cp_b G + 0), .int c] h 86 z 12 86 (va_up h 86 cp_junk) 87 (z + 6) := by
  refine cp_CT.of rfl (Nat.le_of_ble_eq_true rfl) ?_
  refine vv_iload_n (pc := 0) d_P_refuseUnlessFree_0 rfl ?_
  refine vv_callS (pc := 1) (As := [.int c]) d_P_refuseUnlessFree_1 (x_P_isLetter_10 (c := c) hc1 hc2 hc3 hc4 (d := d - 1) (by omega)) k_P_isLetter ml_P_200.1 ml_P_200.2 (by omega) (Nat.le_of_ble_eq_true rfl) ?_
  refine vv_if_ne (pc := 4) (tgt := 17) d_P_refuseUnlessFree_4 rfl (fun hc => absurd (by decide +kernel) hc) (fun _ => ?_)
  exact vv_throw (pc := 7) (tx := "not a letter A .. Z") d_P_refuseUnlessFree_7 d_P_refuseUnlessFree_10 d_P_refuseUnlessFree_11 d_P_refuseUnlessFree_13 d_P_refuseUnlessFree_16 cp_ok12 cl_P_176 rfl cp_thr12 (by decide) cp_fit12 (by omega) (Nat.le_of_ble_eq_true rfl) k_P_refuseUnlessFree.1
theorem x_P_lemma_2 {G : cp_G} {h : Nat → cp_E} {z d : Nat} {g0 : Nat → Value} {c : Int32} (hc1 : ¬ c < 65) (hc2 : 90 < c) (hc3 : ¬ c - 65 < 0) (hc4 : 26 ≤ c - 65) (hd : 7 ≤ d) (H0 : h 0 = .inr (0, g0)) : cp_CT G d m_P_lemma [.ref (cp_b G + 0), .int c] h 86 z 12 86 (va_up h 86 cp_junk) 87 (z + 6) := by
  refine cp_CT.of rfl (Nat.le_of_ble_eq_true rfl) ?_
  refine vv_aload_n (pc := 0) d_P_lemma_0 rfl ?_
  refine vv_iload_n (pc := 1) d_P_lemma_1 rfl ?_
  exact vv_thV (pc := 2) (As := [.int c]) d_P_lemma_2 (x_P_refuseUnlessFree_8 (c := c) hc1 hc2 hc3 hc4 (d := d - 1) (by omega)) k_P_refuseUnlessFree ml_P_86.1 ml_P_86.2.1 ml_P_86.2.2.1 ml_P_86.2.2.2.1 ml_P_86.2.2.2.2 (by decide) H0 (by omega) (Nat.le_of_ble_eq_true rfl) k_P_lemma.1
theorem x_L_lemma_2 {G : cp_G} {h : Nat → cp_E} {z d : Nat} {g0 : Nat → Value} {c : Int32} (hc1 : ¬ c < 65) (hc2 : 90 < c) (hc3 : ¬ c - 65 < 0) (hc4 : 26 ≤ c - 65) (hd : 8 ≤ d) (H0 : h 0 = .inr (0, g0)) : cp_CW G d m_L_lemma [(0, 5, 8, 13), (0, 5, 11, 15)] [.ref (cp_b G + 0), .int c] h 86 z (some (.int 1)) (va_up h 86 cp_junk) 87 (z + 6) := by
  refine cp_CW.of rfl (Nat.le_of_ble_eq_true rfl) ?_
  refine vv_aload_n (pc := 0) d_L_lemma_0 rfl ?_
  refine vv_iload_n (pc := 1) d_L_lemma_1 rfl ?_
  refine vv_catch (pc := 2) (As := [.int c]) (hh := [(0, 5, 8, 13), (0, 5, 11, 15)]) (hpc := 8) d_L_lemma_2 (x_P_lemma_2 (c := c) hc1 hc2 hc3 hc4 (d := d - 1) (by omega) H0) k_P_lemma ml_L_20.1 ml_L_20.2.1 ml_L_20.2.2.1 ml_L_20.2.2.2.1 ml_L_20.2.2.2.2 (by decide) H0 (by omega) (Nat.le_of_ble_eq_true rfl) (List.mem_of_getElem? (i := 2) rfl) rfl cl_L_13 cl_L_15 rfl ?_
  refine vv_astore_n (pc := 8) d_L_lemma_8 cp_isr_r (Nat.le_of_ble_eq_true rfl) ?_
  refine vv_iconst (pc := 9) (v := 1) d_L_lemma_9 rfl ?_
  exact vv_iret (pc := 10) d_L_lemma_10 rfl
theorem x_M_isLetter_8 {G : cp_G} {h : Nat → cp_E} {z d : Nat} {c : Int32} (hc1 : ¬ c < 65) (hc2 : 90 < c) (hc3 : ¬ c - 65 < 0) (hc4 : 26 ≤ c - 65) (hd : 0 ≤ d) : cp_C G d m_M_isLetter [.int c] h 87 z (some (.int 0)) h 87 (z + 0) := by
  refine cp_C.of rfl (Nat.le_of_ble_eq_true rfl) ?_
  refine vv_iload_n (pc := 0) d_M_isLetter_0 rfl ?_
  refine vv_bipush (pc := 1) (v := 65) d_M_isLetter_1 rfl ?_
  refine vv_icmp_lt (pc := 3) (tgt := 16) d_M_isLetter_3 rfl (fun hc => absurd hc hc1) (fun _ => ?_)
  refine vv_iload_n (pc := 6) d_M_isLetter_6 rfl ?_
  refine vv_bipush (pc := 7) (v := 90) d_M_isLetter_7 rfl ?_
  refine vv_icmp_gt (pc := 9) (tgt := 16) d_M_isLetter_9 rfl (fun _ => ?_) (fun hc => absurd hc2 hc)
  refine vv_iconst (pc := 16) (v := 0) d_M_isLetter_16 rfl ?_
  exact vv_zret (pc := 17) d_M_isLetter_17 rfl rfl
theorem x_M_mayName_8 {G : cp_G} {h : Nat → cp_E} {z d : Nat} {g26 : Nat → Value} {c : Int32} (hc1 : ¬ c < 65) (hc2 : 90 < c) (hc3 : ¬ c - 65 < 0) (hc4 : 26 ≤ c - 65) (hd : 1 ≤ d) (H26 : h 26 = .inr (11, g26)) : cp_C G d m_M_mayName [.ref (cp_b G + 26), .int c] h 87 z (some (.int 0)) (va_up h 26 (.inr (11, (va_up g26 0 (.int 1))))) 87 (z + 0) := by
  refine cp_C.of rfl (Nat.le_of_ble_eq_true rfl) ?_
  refine vv_aload_n (pc := 0) d_M_mayName_0 rfl ?_
  refine vv_iload_n (pc := 1) d_M_mayName_1 rfl ?_
  refine vv_callS (pc := 2) (As := [.int c]) d_M_mayName_2 (x_M_isLetter_8 (c := c) hc1 hc2 hc3 hc4 (d := d - 1) (by omega)) k_M_isLetter ml_M_215.1 ml_M_215.2 (by omega) (Nat.le_of_ble_eq_true rfl) ?_
  refine vv_if_ne (pc := 5) (tgt := 12) d_M_mayName_5 rfl (fun hc => absurd (by decide +kernel) hc) (fun _ => ?_)
  refine vv_iconst (pc := 8) (v := 1) d_M_mayName_8 rfl ?_
  refine vv_goto (pc := 9) (tgt := 29) d_M_mayName_9 rfl ?_
  refine vv_putf (pc := 29) d_M_mayName_29 fl_M_184 (by decide) H26 rfl rfl rfl ?_
  refine vv_aload_n (pc := 32) d_M_mayName_32 rfl ?_
  refine vv_getf (pc := 33) d_M_mayName_33 fl_M_184 (by decide) rfl rfl ?_
  refine vv_if_ne (pc := 36) (tgt := 43) d_M_mayName_36 rfl (fun _ => ?_) (fun hc => absurd hc (by decide +kernel))
  refine vv_iconst (pc := 43) (v := 0) d_M_mayName_43 rfl ?_
  exact vv_zret (pc := 44) d_M_mayName_44 rfl rfl
theorem x_M_lemma_2 {G : cp_G} {h : Nat → cp_E} {z d : Nat} {g26 : Nat → Value} {c : Int32} (hc1 : ¬ c < 65) (hc2 : 90 < c) (hc3 : ¬ c - 65 < 0) (hc4 : 26 ≤ c - 65) (hd : 2 ≤ d) (H26 : h 26 = .inr (11, g26)) : cp_C G d m_M_lemma [.ref (cp_b G + 26), .int c] h 87 z none (va_up (va_up h 26 (.inr (11, (va_up g26 0 (.int 1))))) 26 (.inr (11, (va_up (va_up g26 0 (.int 1)) 0 (.int 1))))) 87 (z + 0) := by
  refine cp_C.of rfl (Nat.le_of_ble_eq_true rfl) ?_
  refine vv_aload_n (pc := 0) d_M_lemma_0 rfl ?_
  refine vv_iload_n (pc := 1) d_M_lemma_1 rfl ?_
  refine vv_callV (pc := 2) (As := [.int c]) d_M_lemma_2 (x_M_mayName_8 (c := c) hc1 hc2 hc3 hc4 (d := d - 1) (by omega) H26) k_M_mayName ml_M_425.1 ml_M_425.2.1 ml_M_425.2.2.1 ml_M_425.2.2.2.1 ml_M_425.2.2.2.2 (by decide) H26 (by omega) (Nat.le_of_ble_eq_true rfl) ?_
  refine vv_istore_n (pc := 5) d_M_lemma_5 (Nat.le_of_ble_eq_true rfl) ?_
  refine vv_aload_n (pc := 6) d_M_lemma_6 rfl ?_
  refine vv_aload_n (pc := 7) d_M_lemma_7 rfl ?_
  refine vv_getf (pc := 8) d_M_lemma_8 fl_M_184 (by decide) rfl rfl ?_
  refine vv_iconst (pc := 11) (v := 1) d_M_lemma_11 rfl ?_
  refine vv_icmp_ne (pc := 12) (tgt := 19) d_M_lemma_12 rfl (fun hc => absurd (by decide +kernel) hc) (fun _ => ?_)
  refine vv_iconst (pc := 15) (v := 1) d_M_lemma_15 rfl ?_
  refine vv_goto (pc := 16) (tgt := 42) d_M_lemma_16 rfl ?_
  refine vv_putf (pc := 42) d_M_lemma_42 fl_M_184 (by decide) rfl rfl rfl rfl ?_
  refine vv_aload_n (pc := 45) d_M_lemma_45 rfl ?_
  refine vv_getf (pc := 46) d_M_lemma_46 fl_M_184 (by decide) rfl rfl ?_
  refine vv_if_le (pc := 49) (tgt := 53) d_M_lemma_49 rfl (fun hc => absurd hc (by decide +kernel)) (fun _ => ?_)
  exact vv_vret (pc := 52) d_M_lemma_52 rfl
theorem x_M_thrown_9 {G : cp_G} {h : Nat → cp_E} {z d : Nat} {g26 : Nat → Value} {c : Int32} (hc1 : ¬ c < 65) (hc2 : 90 < c) (hc3 : ¬ c - 65 < 0) (hc4 : 26 ≤ c - 65) (hd : 0 ≤ d) (H26 : h 26 = .inr (11, g26)) (E26_0 : g26 0 = .int 1) : cp_C G d m_M_thrown [.ref (cp_b G + 26)] h 87 z (some (.int 1)) h 87 (z + 0) := by
  refine cp_C.of rfl (Nat.le_of_ble_eq_true rfl) ?_
  refine vv_aload_n (pc := 0) d_M_thrown_0 rfl ?_
  refine vv_getf (pc := 1) d_M_thrown_1 fl_M_184 (by decide) H26 E26_0 ?_
  exact vv_iret (pc := 4) d_M_thrown_4 rfl
theorem p_law_5_hi {G : cp_G} {h : Nat → cp_E} {z d bb : Nat} {xs : Nat → Int32} {g0 g26 : Nat → Value} {c : Int32} (hc1 : ¬ c < 65) (hc2 : 90 < c) (hc3 : ¬ c - 65 < 0) (hc4 : 26 ≤ c - 65) (hS : cp_scr G bb 2 xs) (hcx : ((xs 1).toUInt32 % 65536).toInt32 = c) (hd : 9 ≤ d) (H0 : h 0 = .inr (0, g0)) (H26 : h 26 = .inr (11, g26)) : cp_V G m_law d 0 0 (.inl (some (.int 1))) (va_up (va_up (va_up h 86 cp_junk) 26 (.inr (11, (va_up g26 0 (.int 1))))) 26 (.inr (11, (va_up (va_up g26 0 (.int 1)) 0 (.int 1))))) 87 (z + 6) 273 [(4, .int 0), (3, .ref (cp_b G + 85)), (2, .ref (cp_b G + 26)), (1, .ref (cp_b G + 0)), (0, .ref bb)] [] h 86 z := by
  refine vv_aload_n (pc := 273) d_law_273 rfl ?_
  refine vv_aload_n (pc := 274) d_law_274 rfl ?_
  refine vv_iload (pc := 275) d_law_275 rfl ?_
  refine vv_iconst (pc := 277) (v := 1) d_law_277 rfl ?_
  refine vv_iadd (pc := 278) d_law_278 ?_
  refine vv_topi (y := 1) (by decide +kernel) ?_
  refine vv_sld (pc := 279) hS d_law_279 (by unfold vp_in; decide +kernel) ?_
  refine vv_topi (y := xs 1) (congrArg xs (by decide +kernel)) ?_
  refine vv_i2c (pc := 280) d_law_280 ?_
  refine vv_topi (y := c) hcx ?_
  refine vv_callSW (pc := 281) (As := [.ref (cp_b G + 0), .int c]) (hh := [(0, 5, 8, 13), (0, 5, 11, 15)]) d_law_281 (x_L_lemma_2 (c := c) hc1 hc2 hc3 hc4 (d := d - 1) (by omega) H0) cw_L_lemma ci_L_lemma (by decide) ⟨by decide, by decide⟩ cn_L_lemma ml_L_61.1 ml_L_61.2 (by omega) (Nat.le_of_ble_eq_true rfl) ?_
  refine vv_istore (pc := 284) d_law_284 (Nat.le_of_ble_eq_true rfl) ?_
  refine vv_aload_n (pc := 286) d_law_286 rfl ?_
  refine vv_aload_n (pc := 287) d_law_287 rfl ?_
  refine vv_iload (pc := 288) d_law_288 rfl ?_
  refine vv_iconst (pc := 290) (v := 1) d_law_290 rfl ?_
  refine vv_iadd (pc := 291) d_law_291 ?_
  refine vv_topi (y := 1) (by decide +kernel) ?_
  refine vv_sld (pc := 292) hS d_law_292 (by unfold vp_in; decide +kernel) ?_
  refine vv_topi (y := xs 1) (congrArg xs (by decide +kernel)) ?_
  refine vv_i2c (pc := 293) d_law_293 ?_
  refine vv_topi (y := c) hcx ?_
  refine vv_callV (pc := 294) (As := [.int c]) d_law_294 (x_M_lemma_2 (c := c) hc1 hc2 hc3 hc4 (d := d - 1) (by omega) H26) k_M_lemma ml_L_64.1 ml_L_64.2.1 ml_L_64.2.2.1 ml_L_64.2.2.2.1 ml_L_64.2.2.2.2 (by decide) H26 (by omega) (Nat.le_of_ble_eq_true rfl) ?_
  refine vv_aload_n (pc := 297) d_law_297 rfl ?_
  refine vv_callV (pc := 298) (As := []) d_law_298 (x_M_thrown_9 (c := c) hc1 hc2 hc3 hc4 (d := d - 1) (by omega) rfl rfl) k_M_thrown ml_L_51.1 ml_L_51.2.1 ml_L_51.2.2.1 ml_L_51.2.2.2.1 ml_L_51.2.2.2.2 (by decide) rfl (by omega) (Nat.le_of_ble_eq_true rfl) ?_
  refine vv_iload (pc := 301) d_law_301 rfl ?_
  refine vv_icmp_eq (pc := 303) (tgt := 308) d_law_303 rfl (fun _ => ?_) (fun hc => absurd (by decide +kernel) hc)
  refine vv_goto (pc := 308) (tgt := 518) d_law_308 rfl ?_
  refine vv_iinc (pc := 518) (v := 2) d_law_518 rfl (by decide +kernel) (Nat.le_of_ble_eq_true rfl) ?_
  refine vv_goto (pc := 521) (tgt := 23) d_law_521 rfl ?_
  refine vv_iload (pc := 23) d_law_23 rfl ?_
  refine vv_aload_n (pc := 25) d_law_25 rfl ?_
  refine vv_slen (pc := 26) hS d_law_26 ?_
  refine vv_topi (y := 2) (by decide +kernel) ?_
  refine vv_iconst (pc := 27) (v := 2) d_law_27 rfl ?_
  refine vv_isub (pc := 28) d_law_28 ?_
  refine vv_topi (y := 0) (by decide +kernel) ?_
  refine vv_icmp_gt (pc := 29) (tgt := 524) d_law_29 rfl (fun _ => ?_) (fun hc => absurd (by decide +kernel) hc)
  refine vv_iconst (pc := 524) (v := 1) d_law_524 rfl ?_
  exact vv_zret (pc := 525) d_law_525 rfl rfl
theorem x_P_isLetter_11 {G : cp_G} {h : Nat → cp_E} {z d : Nat} {c : Int32} (hc1 : ¬ c < 65) (hc2 : ¬ 90 < c) (hc3 : ¬ c - 65 < 0) (hc4 : ¬ 26 ≤ c - 65) (hc5 : vp_in (c - 65) 26) (hd : 0 ≤ d) : cp_C G d m_P_isLetter [.int c] h 86 z (some (.int 1)) h 86 (z + 0) := by
  refine cp_C.of rfl (Nat.le_of_ble_eq_true rfl) ?_
  refine vv_iload_n (pc := 0) d_P_isLetter_0 rfl ?_
  refine vv_bipush (pc := 1) (v := 65) d_P_isLetter_1 rfl ?_
  refine vv_icmp_lt (pc := 3) (tgt := 16) d_P_isLetter_3 rfl (fun hc => absurd hc hc1) (fun _ => ?_)
  refine vv_iload_n (pc := 6) d_P_isLetter_6 rfl ?_
  refine vv_bipush (pc := 7) (v := 90) d_P_isLetter_7 rfl ?_
  refine vv_icmp_gt (pc := 9) (tgt := 16) d_P_isLetter_9 rfl (fun hc => absurd hc hc2) (fun _ => ?_)
  refine vv_iconst (pc := 12) (v := 1) d_P_isLetter_12 rfl ?_
  refine vv_goto (pc := 13) (tgt := 17) d_P_isLetter_13 rfl ?_
  exact vv_zret (pc := 17) d_P_isLetter_17 rfl rfl
theorem x_D_find_3 {G : cp_G} {h : Nat → cp_E} {z d : Nat} {g3 : Nat → Value} {c : Int32} (hc1 : ¬ c < 65) (hc2 : ¬ 90 < c) (hc3 : ¬ c - 65 < 0) (hc4 : ¬ 26 ≤ c - 65) (hc5 : vp_in (c - 65) 26) (hd : 0 ≤ d) (H3 : h 3 = .inr (1, g3)) (E3_0 : g3 0 = .ref (cp_b G + 4)) (H4 : h 4 = .inl (cp_cE G, 26, .inr (.inr (.inr (.inr (fun _ => none)))))) : cp_C G d m_D_find [.ref (cp_b G + 3), .int c] h 86 z (some (.null)) h 86 (z + 0) := by
  refine cp_C.of rfl (Nat.le_of_ble_eq_true rfl) ?_
  refine vv_iload_n (pc := 0) d_D_find_0 rfl ?_
  refine vv_bipush (pc := 1) (v := 65) d_D_find_1 rfl ?_
  refine vv_isub (pc := 3) d_D_find_3 ?_
  refine vv_istore_n (pc := 4) d_D_find_4 (Nat.le_of_ble_eq_true rfl) ?_
  refine vv_iload_n (pc := 5) d_D_find_5 rfl ?_
  refine vv_if_lt (pc := 6) (tgt := 24) d_D_find_6 rfl (fun hc => absurd hc hc3) (fun _ => ?_)
  refine vv_iload_n (pc := 9) d_D_find_9 rfl ?_
  refine vv_bipush (pc := 10) (v := 26) d_D_find_10 rfl ?_
  refine vv_icmp_ge (pc := 12) (tgt := 24) d_D_find_12 rfl (fun hc => absurd hc hc4) (fun _ => ?_)
  refine vv_aload_n (pc := 15) d_D_find_15 rfl ?_
  refine vv_getf (pc := 16) d_D_find_16 fl_D_11 (by decide) H3 E3_0 ?_
  refine vv_iload_n (pc := 19) d_D_find_19 rfl ?_
  refine vv_aald (pc := 20) d_D_find_20 (by decide) H4 hc5 ?_
  refine vv_topv (y := .null) rfl ?_
  refine vv_goto (pc := 21) (tgt := 25) d_D_find_21 rfl ?_
  exact vv_aret (pc := 25) d_D_find_25 rfl (Or.inl ⟨_, rfl⟩) cp_isr_n
theorem x_P_refuseUnlessFree_9 {G : cp_G} {h : Nat → cp_E} {z d : Nat} {g0 g3 : Nat → Value} {c : Int32} (hc1 : ¬ c < 65) (hc2 : ¬ 90 < c) (hc3 : ¬ c - 65 < 0) (hc4 : ¬ 26 ≤ c - 65) (hc5 : vp_in (c - 65) 26) (hd : 1 ≤ d) (H0 : h 0 = .inr (0, g0)) (E0_4 : g0 4 = .ref (cp_b G + 3)) (H3 : h 3 = .inr (1, g3)) (E3_0 : g3 0 = .ref (cp_b G + 4)) (H4 : h 4 = .inl (cp_cE G, 26, .inr (.inr (.inr (.inr (fun _ => none)))))) : cp_C G d m_P_refuseUnlessFree [.ref (cp_b G + 0), .int c] h 86 z none h 86 (z + 0) := by
  refine cp_C.of rfl (Nat.le_of_ble_eq_true rfl) ?_
  refine vv_iload_n (pc := 0) d_P_refuseUnlessFree_0 rfl ?_
  refine vv_callS (pc := 1) (As := [.int c]) d_P_refuseUnlessFree_1 (x_P_isLetter_11 (c := c) hc1 hc2 hc3 hc4 hc5 (d := d - 1) (by omega)) k_P_isLetter ml_P_200.1 ml_P_200.2 (by omega) (Nat.le_of_ble_eq_true rfl) ?_
  refine vv_if_ne (pc := 4) (tgt := 17) d_P_refuseUnlessFree_4 rfl (fun _ => ?_) (fun hc => absurd hc (by decide +kernel))
  refine vv_aload_n (pc := 17) d_P_refuseUnlessFree_17 rfl ?_
  refine vv_getf (pc := 18) d_P_refuseUnlessFree_18 fl_P_26 (by decide) H0 E0_4 ?_
  refine vv_iload_n (pc := 21) d_P_refuseUnlessFree_21 rfl ?_
  refine vv_callV (pc := 22) (As := [.int c]) d_P_refuseUnlessFree_22 (x_D_find_3 (c := c) hc1 hc2 hc3 hc4 hc5 (d := d - 1) (by omega) H3 E3_0 H4) k_D_find ml_P_169.1 ml_P_169.2.1 ml_P_169.2.2.1 ml_P_169.2.2.2.1 ml_P_169.2.2.2.2 (by decide) H3 (by omega) (Nat.le_of_ble_eq_true rfl) ?_
  refine vv_ifnullN (pc := 25) (tgt := 38) d_P_refuseUnlessFree_25 rfl ?_
  exact vv_vret (pc := 38) d_P_refuseUnlessFree_38 rfl
theorem x_P_lemma_3 {G : cp_G} {h : Nat → cp_E} {z d : Nat} {g0 g3 : Nat → Value} {c : Int32} (hc1 : ¬ c < 65) (hc2 : ¬ 90 < c) (hc3 : ¬ c - 65 < 0) (hc4 : ¬ 26 ≤ c - 65) (hc5 : vp_in (c - 65) 26) (hd : 6 ≤ d) (H0 : h 0 = .inr (0, g0)) (E0_4 : g0 4 = .ref (cp_b G + 3)) (H3 : h 3 = .inr (1, g3)) (E3_0 : g3 0 = .ref (cp_b G + 4)) (H4 : h 4 = .inl (cp_cE G, 26, .inr (.inr (.inr (.inr (fun _ => none)))))) (E0_11 : g0 11 = .null) : cp_CT G d m_P_lemma [.ref (cp_b G + 0), .int c] h 86 z 13 86 (va_up h 86 cp_junk) 87 (z + 6) := by
  refine cp_CT.of rfl (Nat.le_of_ble_eq_true rfl) ?_
  refine vv_aload_n (pc := 0) d_P_lemma_0 rfl ?_
  refine vv_iload_n (pc := 1) d_P_lemma_1 rfl ?_
  refine vv_callV (pc := 2) (As := [.int c]) d_P_lemma_2 (x_P_refuseUnlessFree_9 (c := c) hc1 hc2 hc3 hc4 hc5 (d := d - 1) (by omega) H0 E0_4 H3 E3_0 H4) k_P_refuseUnlessFree ml_P_86.1 ml_P_86.2.1 ml_P_86.2.2.1 ml_P_86.2.2.2.1 ml_P_86.2.2.2.2 (by decide) H0 (by omega) (Nat.le_of_ble_eq_true rfl) ?_
  refine vv_aload_n (pc := 5) d_P_lemma_5 rfl ?_
  refine vv_getf (pc := 6) d_P_lemma_6 fl_P_78 (by decide) H0 E0_11 ?_
  refine vv_ifnullN (pc := 9) (tgt := 19) d_P_lemma_9 rfl ?_
  exact vv_throw (pc := 19) (tx := "no result without holes") d_P_lemma_19 d_P_lemma_22 d_P_lemma_23 d_P_lemma_25 d_P_lemma_28 cp_ok13 cl_P_144 rfl cp_thr13 (by decide) cp_fit13 (by omega) (Nat.le_of_ble_eq_true rfl) k_P_lemma.1
theorem x_L_lemma_3 {G : cp_G} {h : Nat → cp_E} {z d : Nat} {g0 g3 : Nat → Value} {c : Int32} (hc1 : ¬ c < 65) (hc2 : ¬ 90 < c) (hc3 : ¬ c - 65 < 0) (hc4 : ¬ 26 ≤ c - 65) (hc5 : vp_in (c - 65) 26) (hd : 7 ≤ d) (H0 : h 0 = .inr (0, g0)) (E0_4 : g0 4 = .ref (cp_b G + 3)) (H3 : h 3 = .inr (1, g3)) (E3_0 : g3 0 = .ref (cp_b G + 4)) (H4 : h 4 = .inl (cp_cE G, 26, .inr (.inr (.inr (.inr (fun _ => none)))))) (E0_11 : g0 11 = .null) : cp_CW G d m_L_lemma [(0, 5, 8, 13), (0, 5, 11, 15)] [.ref (cp_b G + 0), .int c] h 86 z (some (.int 2)) (va_up h 86 cp_junk) 87 (z + 6) := by
  refine cp_CW.of rfl (Nat.le_of_ble_eq_true rfl) ?_
  refine vv_aload_n (pc := 0) d_L_lemma_0 rfl ?_
  refine vv_iload_n (pc := 1) d_L_lemma_1 rfl ?_
  refine vv_catch (pc := 2) (As := [.int c]) (hh := [(0, 5, 8, 13), (0, 5, 11, 15)]) (hpc := 11) d_L_lemma_2 (x_P_lemma_3 (c := c) hc1 hc2 hc3 hc4 hc5 (d := d - 1) (by omega) H0 E0_4 H3 E3_0 H4 E0_11) k_P_lemma ml_L_20.1 ml_L_20.2.1 ml_L_20.2.2.1 ml_L_20.2.2.2.1 ml_L_20.2.2.2.2 (by decide) H0 (by omega) (Nat.le_of_ble_eq_true rfl) (List.mem_of_getElem? (i := 2) rfl) rfl cl_L_13 cl_L_15 rfl ?_
  refine vv_astore_n (pc := 11) d_L_lemma_11 cp_isr_r (Nat.le_of_ble_eq_true rfl) ?_
  refine vv_iconst (pc := 12) (v := 2) d_L_lemma_12 rfl ?_
  exact vv_iret (pc := 13) d_L_lemma_13 rfl
theorem x_M_isLetter_9 {G : cp_G} {h : Nat → cp_E} {z d : Nat} {c : Int32} (hc1 : ¬ c < 65) (hc2 : ¬ 90 < c) (hc3 : ¬ c - 65 < 0) (hc4 : ¬ 26 ≤ c - 65) (hc5 : vp_in (c - 65) 26) (hd : 0 ≤ d) : cp_C G d m_M_isLetter [.int c] h 87 z (some (.int 1)) h 87 (z + 0) := by
  refine cp_C.of rfl (Nat.le_of_ble_eq_true rfl) ?_
  refine vv_iload_n (pc := 0) d_M_isLetter_0 rfl ?_
  refine vv_bipush (pc := 1) (v := 65) d_M_isLetter_1 rfl ?_
  refine vv_icmp_lt (pc := 3) (tgt := 16) d_M_isLetter_3 rfl (fun hc => absurd hc hc1) (fun _ => ?_)
  refine vv_iload_n (pc := 6) d_M_isLetter_6 rfl ?_
  refine vv_bipush (pc := 7) (v := 90) d_M_isLetter_7 rfl ?_
  refine vv_icmp_gt (pc := 9) (tgt := 16) d_M_isLetter_9 rfl (fun hc => absurd hc hc2) (fun _ => ?_)
  refine vv_iconst (pc := 12) (v := 1) d_M_isLetter_12 rfl ?_
  refine vv_goto (pc := 13) (tgt := 17) d_M_isLetter_13 rfl ?_
  exact vv_zret (pc := 17) d_M_isLetter_17 rfl rfl
theorem x_M_mayName_9 {G : cp_G} {h : Nat → cp_E} {z d : Nat} {g26 : Nat → Value} {f30 : Nat → Int32} {c : Int32} (hc1 : ¬ c < 65) (hc2 : ¬ 90 < c) (hc3 : ¬ c - 65 < 0) (hc4 : ¬ 26 ≤ c - 65) (hc5 : vp_in (c - 65) 26) (hd : 1 ≤ d) (H26 : h 26 = .inr (11, g26)) (E26_6 : g26 6 = .ref (cp_b G + 30)) (H30 : h 30 = .inl (cp_cI G, 26, .inl f30)) (Z30 : f30 = fun _ => 0) : cp_C G d m_M_mayName [.ref (cp_b G + 26), .int c] h 87 z (some (.int 1)) (va_up h 26 (.inr (11, (va_up g26 0 (.int 0))))) 87 (z + 0) := by
  refine cp_C.of rfl (Nat.le_of_ble_eq_true rfl) ?_
  refine vv_aload_n (pc := 0) d_M_mayName_0 rfl ?_
  refine vv_iload_n (pc := 1) d_M_mayName_1 rfl ?_
  refine vv_callS (pc := 2) (As := [.int c]) d_M_mayName_2 (x_M_isLetter_9 (c := c) hc1 hc2 hc3 hc4 hc5 (d := d - 1) (by omega)) k_M_isLetter ml_M_215.1 ml_M_215.2 (by omega) (Nat.le_of_ble_eq_true rfl) ?_
  refine vv_if_ne (pc := 5) (tgt := 12) d_M_mayName_5 rfl (fun _ => ?_) (fun hc => absurd hc (by decide +kernel))
  refine vv_aload_n (pc := 12) d_M_mayName_12 rfl ?_
  refine vv_getf (pc := 13) d_M_mayName_13 fl_M_19 (by decide) H26 E26_6 ?_
  refine vv_iload_n (pc := 16) d_M_mayName_16 rfl ?_
  refine vv_bipush (pc := 17) (v := 65) d_M_mayName_17 rfl ?_
  refine vv_isub (pc := 19) d_M_mayName_19 ?_
  refine vv_iald (pc := 20) d_M_mayName_20 (by decide) H30 hc5 ?_
  refine vv_topi (y := 0) (congrFun Z30 _) ?_
  refine vv_if_eq (pc := 21) (tgt := 28) d_M_mayName_21 rfl (fun _ => ?_) (fun hc => absurd (by decide +kernel) hc)
  refine vv_iconst (pc := 28) (v := 0) d_M_mayName_28 rfl ?_
  refine vv_putf (pc := 29) d_M_mayName_29 fl_M_184 (by decide) H26 rfl rfl rfl ?_
  refine vv_aload_n (pc := 32) d_M_mayName_32 rfl ?_
  refine vv_getf (pc := 33) d_M_mayName_33 fl_M_184 (by decide) rfl rfl ?_
  refine vv_if_ne (pc := 36) (tgt := 43) d_M_mayName_36 rfl (fun hc => absurd (by decide +kernel) hc) (fun _ => ?_)
  refine vv_iconst (pc := 39) (v := 1) d_M_mayName_39 rfl ?_
  refine vv_goto (pc := 40) (tgt := 44) d_M_mayName_40 rfl ?_
  exact vv_zret (pc := 44) d_M_mayName_44 rfl rfl
theorem x_M_lemma_3 {G : cp_G} {h : Nat → cp_E} {z d : Nat} {g26 : Nat → Value} {f30 : Nat → Int32} {c : Int32} (hc1 : ¬ c < 65) (hc2 : ¬ 90 < c) (hc3 : ¬ c - 65 < 0) (hc4 : ¬ 26 ≤ c - 65) (hc5 : vp_in (c - 65) 26) (hd : 2 ≤ d) (H26 : h 26 = .inr (11, g26)) (E26_6 : g26 6 = .ref (cp_b G + 30)) (H30 : h 30 = .inl (cp_cI G, 26, .inl f30)) (Z30 : f30 = fun _ => 0) (E26_79 : g26 79 = .int 0) : cp_C G d m_M_lemma [.ref (cp_b G + 26), .int c] h 87 z none (va_up (va_up h 26 (.inr (11, (va_up g26 0 (.int 0))))) 26 (.inr (11, (va_up (va_up g26 0 (.int 0)) 0 (.int 2))))) 87 (z + 0) := by
  refine cp_C.of rfl (Nat.le_of_ble_eq_true rfl) ?_
  refine vv_aload_n (pc := 0) d_M_lemma_0 rfl ?_
  refine vv_iload_n (pc := 1) d_M_lemma_1 rfl ?_
  refine vv_callV (pc := 2) (As := [.int c]) d_M_lemma_2 (x_M_mayName_9 (c := c) hc1 hc2 hc3 hc4 hc5 (d := d - 1) (by omega) H26 E26_6 H30 Z30) k_M_mayName ml_M_425.1 ml_M_425.2.1 ml_M_425.2.2.1 ml_M_425.2.2.2.1 ml_M_425.2.2.2.2 (by decide) H26 (by omega) (Nat.le_of_ble_eq_true rfl) ?_
  refine vv_istore_n (pc := 5) d_M_lemma_5 (Nat.le_of_ble_eq_true rfl) ?_
  refine vv_aload_n (pc := 6) d_M_lemma_6 rfl ?_
  refine vv_aload_n (pc := 7) d_M_lemma_7 rfl ?_
  refine vv_getf (pc := 8) d_M_lemma_8 fl_M_184 (by decide) rfl rfl ?_
  refine vv_iconst (pc := 11) (v := 1) d_M_lemma_11 rfl ?_
  refine vv_icmp_ne (pc := 12) (tgt := 19) d_M_lemma_12 rfl (fun _ => ?_) (fun hc => absurd hc (by decide +kernel))
  refine vv_iload_n (pc := 19) d_M_lemma_19 rfl ?_
  refine vv_if_eq (pc := 20) (tgt := 37) d_M_lemma_20 rfl (fun hc => absurd hc (by decide +kernel)) (fun _ => ?_)
  refine vv_aload_n (pc := 23) d_M_lemma_23 rfl ?_
  refine vv_getf (pc := 24) d_M_lemma_24 fl_M_444 (by decide) rfl E26_79 ?_
  refine vv_if_eq (pc := 27) (tgt := 37) d_M_lemma_27 rfl (fun _ => ?_) (fun hc => absurd (by decide +kernel) hc)
  refine vv_iconst (pc := 37) (v := 2) d_M_lemma_37 rfl ?_
  refine vv_goto (pc := 38) (tgt := 42) d_M_lemma_38 rfl ?_
  refine vv_putf (pc := 42) d_M_lemma_42 fl_M_184 (by decide) rfl rfl rfl rfl ?_
  refine vv_aload_n (pc := 45) d_M_lemma_45 rfl ?_
  refine vv_getf (pc := 46) d_M_lemma_46 fl_M_184 (by decide) rfl rfl ?_
  refine vv_if_le (pc := 49) (tgt := 53) d_M_lemma_49 rfl (fun hc => absurd hc (by decide +kernel)) (fun _ => ?_)
  exact vv_vret (pc := 52) d_M_lemma_52 rfl
theorem x_M_thrown_10 {G : cp_G} {h : Nat → cp_E} {z d : Nat} {g26 : Nat → Value} {c : Int32} (hc1 : ¬ c < 65) (hc2 : ¬ 90 < c) (hc3 : ¬ c - 65 < 0) (hc4 : ¬ 26 ≤ c - 65) (hc5 : vp_in (c - 65) 26) (hd : 0 ≤ d) (H26 : h 26 = .inr (11, g26)) (E26_0 : g26 0 = .int 2) : cp_C G d m_M_thrown [.ref (cp_b G + 26)] h 87 z (some (.int 2)) h 87 (z + 0) := by
  refine cp_C.of rfl (Nat.le_of_ble_eq_true rfl) ?_
  refine vv_aload_n (pc := 0) d_M_thrown_0 rfl ?_
  refine vv_getf (pc := 1) d_M_thrown_1 fl_M_184 (by decide) H26 E26_0 ?_
  exact vv_iret (pc := 4) d_M_thrown_4 rfl
theorem p_law_5_le {G : cp_G} {h : Nat → cp_E} {z d bb : Nat} {xs : Nat → Int32} {g0 g3 g26 : Nat → Value} {f30 : Nat → Int32} {c : Int32} (hc1 : ¬ c < 65) (hc2 : ¬ 90 < c) (hc3 : ¬ c - 65 < 0) (hc4 : ¬ 26 ≤ c - 65) (hc5 : vp_in (c - 65) 26) (hS : cp_scr G bb 2 xs) (hcx : ((xs 1).toUInt32 % 65536).toInt32 = c) (hd : 8 ≤ d) (H0 : h 0 = .inr (0, g0)) (E0_4 : g0 4 = .ref (cp_b G + 3)) (H3 : h 3 = .inr (1, g3)) (E3_0 : g3 0 = .ref (cp_b G + 4)) (H4 : h 4 = .inl (cp_cE G, 26, .inr (.inr (.inr (.inr (fun _ => none)))))) (E0_11 : g0 11 = .null) (H26 : h 26 = .inr (11, g26)) (E26_6 : g26 6 = .ref (cp_b G + 30)) (H30 : h 30 = .inl (cp_cI G, 26, .inl f30)) (Z30 : f30 = fun _ => 0) (E26_79 : g26 79 = .int 0) : cp_V G m_law d 0 0 (.inl (some (.int 1))) (va_up (va_up (va_up h 86 cp_junk) 26 (.inr (11, (va_up g26 0 (.int 0))))) 26 (.inr (11, (va_up (va_up g26 0 (.int 0)) 0 (.int 2))))) 87 (z + 6) 273 [(4, .int 0), (3, .ref (cp_b G + 85)), (2, .ref (cp_b G + 26)), (1, .ref (cp_b G + 0)), (0, .ref bb)] [] h 86 z := by
  refine vv_aload_n (pc := 273) d_law_273 rfl ?_
  refine vv_aload_n (pc := 274) d_law_274 rfl ?_
  refine vv_iload (pc := 275) d_law_275 rfl ?_
  refine vv_iconst (pc := 277) (v := 1) d_law_277 rfl ?_
  refine vv_iadd (pc := 278) d_law_278 ?_
  refine vv_topi (y := 1) (by decide +kernel) ?_
  refine vv_sld (pc := 279) hS d_law_279 (by unfold vp_in; decide +kernel) ?_
  refine vv_topi (y := xs 1) (congrArg xs (by decide +kernel)) ?_
  refine vv_i2c (pc := 280) d_law_280 ?_
  refine vv_topi (y := c) hcx ?_
  refine vv_callSW (pc := 281) (As := [.ref (cp_b G + 0), .int c]) (hh := [(0, 5, 8, 13), (0, 5, 11, 15)]) d_law_281 (x_L_lemma_3 (c := c) hc1 hc2 hc3 hc4 hc5 (d := d - 1) (by omega) H0 E0_4 H3 E3_0 H4 E0_11) cw_L_lemma ci_L_lemma (by decide) ⟨by decide, by decide⟩ cn_L_lemma ml_L_61.1 ml_L_61.2 (by omega) (Nat.le_of_ble_eq_true rfl) ?_
  refine vv_istore (pc := 284) d_law_284 (Nat.le_of_ble_eq_true rfl) ?_
  refine vv_aload_n (pc := 286) d_law_286 rfl ?_
  refine vv_aload_n (pc := 287) d_law_287 rfl ?_
  refine vv_iload (pc := 288) d_law_288 rfl ?_
  refine vv_iconst (pc := 290) (v := 1) d_law_290 rfl ?_
  refine vv_iadd (pc := 291) d_law_291 ?_
  refine vv_topi (y := 1) (by decide +kernel) ?_
  refine vv_sld (pc := 292) hS d_law_292 (by unfold vp_in; decide +kernel) ?_
  refine vv_topi (y := xs 1) (congrArg xs (by decide +kernel)) ?_
  refine vv_i2c (pc := 293) d_law_293 ?_
  refine vv_topi (y := c) hcx ?_
  refine vv_callV (pc := 294) (As := [.int c]) d_law_294 (x_M_lemma_3 (c := c) hc1 hc2 hc3 hc4 hc5 (d := d - 1) (by omega) H26 E26_6 H30 Z30 E26_79) k_M_lemma ml_L_64.1 ml_L_64.2.1 ml_L_64.2.2.1 ml_L_64.2.2.2.1 ml_L_64.2.2.2.2 (by decide) H26 (by omega) (Nat.le_of_ble_eq_true rfl) ?_
  refine vv_aload_n (pc := 297) d_law_297 rfl ?_
  refine vv_callV (pc := 298) (As := []) d_law_298 (x_M_thrown_10 (c := c) hc1 hc2 hc3 hc4 hc5 (d := d - 1) (by omega) rfl rfl) k_M_thrown ml_L_51.1 ml_L_51.2.1 ml_L_51.2.2.1 ml_L_51.2.2.2.1 ml_L_51.2.2.2.2 (by decide) rfl (by omega) (Nat.le_of_ble_eq_true rfl) ?_
  refine vv_iload (pc := 301) d_law_301 rfl ?_
  refine vv_icmp_eq (pc := 303) (tgt := 308) d_law_303 rfl (fun _ => ?_) (fun hc => absurd (by decide +kernel) hc)
  refine vv_goto (pc := 308) (tgt := 518) d_law_308 rfl ?_
  refine vv_iinc (pc := 518) (v := 2) d_law_518 rfl (by decide +kernel) (Nat.le_of_ble_eq_true rfl) ?_
  refine vv_goto (pc := 521) (tgt := 23) d_law_521 rfl ?_
  refine vv_iload (pc := 23) d_law_23 rfl ?_
  refine vv_aload_n (pc := 25) d_law_25 rfl ?_
  refine vv_slen (pc := 26) hS d_law_26 ?_
  refine vv_topi (y := 2) (by decide +kernel) ?_
  refine vv_iconst (pc := 27) (v := 2) d_law_27 rfl ?_
  refine vv_isub (pc := 28) d_law_28 ?_
  refine vv_topi (y := 0) (by decide +kernel) ?_
  refine vv_icmp_gt (pc := 29) (tgt := 524) d_law_29 rfl (fun _ => ?_) (fun hc => absurd (by decide +kernel) hc)
  refine vv_iconst (pc := 524) (v := 1) d_law_524 rfl ?_
  exact vv_zret (pc := 525) d_law_525 rfl rfl
theorem x_D_find_4 {G : cp_G} {h : Nat → cp_E} {z d : Nat} {c : Int32} (hc1 : c < 65) (hc2 : c - 65 < 0) (hd : 0 ≤ d) : cp_C G d m_D_find [.ref (cp_b G + 3), .int c] h 86 z (some (.null)) h 86 (z + 0) := by
  refine cp_C.of rfl (Nat.le_of_ble_eq_true rfl) ?_
  refine vv_iload_n (pc := 0) d_D_find_0 rfl ?_
  refine vv_bipush (pc := 1) (v := 65) d_D_find_1 rfl ?_
  refine vv_isub (pc := 3) d_D_find_3 ?_
  refine vv_istore_n (pc := 4) d_D_find_4 (Nat.le_of_ble_eq_true rfl) ?_
  refine vv_iload_n (pc := 5) d_D_find_5 rfl ?_
  refine vv_if_lt (pc := 6) (tgt := 24) d_D_find_6 rfl (fun _ => ?_) (fun hc => absurd hc2 hc)
  refine vv_null (pc := 24) d_D_find_24 ?_
  exact vv_aret (pc := 25) d_D_find_25 rfl (Or.inl ⟨_, rfl⟩) cp_isr_n
theorem x_P_run {G : cp_G} {h : Nat → cp_E} {z d : Nat} {g0 g3 : Nat → Value} {c : Int32} (hc1 : c < 65) (hc2 : c - 65 < 0) (hd : 6 ≤ d) (H0 : h 0 = .inr (0, g0)) (E0_4 : g0 4 = .ref (cp_b G + 3)) (H3 : h 3 = .inr (1, g3)) : cp_CT G d m_P_run [.ref (cp_b G + 0), .int c] h 86 z 12 86 (va_up h 86 cp_junk) 87 (z + 6) := by
  refine cp_CT.of rfl (Nat.le_of_ble_eq_true rfl) ?_
  refine vv_aload_n (pc := 0) d_P_run_0 rfl ?_
  refine vv_getf (pc := 1) d_P_run_1 fl_P_26 (by decide) H0 E0_4 ?_
  refine vv_iload_n (pc := 4) d_P_run_4 rfl ?_
  refine vv_callV (pc := 5) (As := [.int c]) d_P_run_5 (x_D_find_4 (c := c) hc1 hc2 (d := d - 1) (by omega)) k_D_find ml_P_169.1 ml_P_169.2.1 ml_P_169.2.2.1 ml_P_169.2.2.2.1 ml_P_169.2.2.2.2 (by decide) H3 (by omega) (Nat.le_of_ble_eq_true rfl) ?_
  refine vv_astore_n (pc := 8) d_P_run_8 cp_isr_n (Nat.le_of_ble_eq_true rfl) ?_
  refine vv_aload_nN (pc := 9) d_P_run_9 rfl ?_
  refine vv_ifnullN (pc := 10) (tgt := 20) d_P_run_10 rfl ?_
  exact vv_throw (pc := 20) (tx := "no program") d_P_run_20 d_P_run_23 d_P_run_24 d_P_run_26 d_P_run_29 cp_ok12 cl_P_176 rfl cp_thr12 (by decide) cp_fit12 (by omega) (Nat.le_of_ble_eq_true rfl) k_P_run.1
theorem x_L_run {G : cp_G} {h : Nat → cp_E} {z d : Nat} {g0 g3 : Nat → Value} {c : Int32} (hc1 : c < 65) (hc2 : c - 65 < 0) (hd : 7 ≤ d) (H0 : h 0 = .inr (0, g0)) (E0_4 : g0 4 = .ref (cp_b G + 3)) (H3 : h 3 = .inr (1, g3)) : cp_CW G d m_L_run [(0, 9, 12, 13)] [.ref (cp_b G + 0), .int c, .ref (cp_b G + 85)] h 86 z (some (.int 1)) (va_up h 86 cp_junk) 87 (z + 6) := by
  refine cp_CW.of rfl (Nat.le_of_ble_eq_true rfl) ?_
  refine vv_aload_n (pc := 0) d_L_run_0 rfl ?_
  refine vv_iconst (pc := 1) (v := 0) d_L_run_1 rfl ?_
  refine vv_aload_n (pc := 2) d_L_run_2 rfl ?_
  refine vv_iload_n (pc := 3) d_L_run_3 rfl ?_
  refine vv_catch (pc := 4) (As := [.int c]) (hh := [(0, 9, 12, 13)]) (hpc := 12) d_L_run_4 (x_P_run (c := c) hc1 hc2 (d := d - 1) (by omega) H0 E0_4 H3) k_P_run ml_L_28.1 ml_L_28.2.1 ml_L_28.2.2.1 ml_L_28.2.2.2.1 ml_L_28.2.2.2.2 (by decide) H0 (by omega) (Nat.le_of_ble_eq_true rfl) (List.mem_of_getElem? (i := 4) rfl) rfl cl_L_13 cl_L_15 rfl ?_
  refine vv_astore_n (pc := 12) d_L_run_12 cp_isr_r (Nat.le_of_ble_eq_true rfl) ?_
  refine vv_iconst (pc := 13) (v := 1) d_L_run_13 rfl ?_
  exact vv_iret (pc := 14) d_L_run_14 rfl
theorem x_M_isLetter_10 {G : cp_G} {h : Nat → cp_E} {z d : Nat} {c : Int32} (hc1 : c < 65) (hc2 : c - 65 < 0) (hd : 0 ≤ d) : cp_C G d m_M_isLetter [.int c] h 87 z (some (.int 0)) h 87 (z + 0) := by
  refine cp_C.of rfl (Nat.le_of_ble_eq_true rfl) ?_
  refine vv_iload_n (pc := 0) d_M_isLetter_0 rfl ?_
  refine vv_bipush (pc := 1) (v := 65) d_M_isLetter_1 rfl ?_
  refine vv_icmp_lt (pc := 3) (tgt := 16) d_M_isLetter_3 rfl (fun _ => ?_) (fun hc => absurd hc1 hc)
  refine vv_iconst (pc := 16) (v := 0) d_M_isLetter_16 rfl ?_
  exact vv_zret (pc := 17) d_M_isLetter_17 rfl rfl
theorem x_M_run {G : cp_G} {h : Nat → cp_E} {z d : Nat} {g26 : Nat → Value} {c : Int32} (hc1 : c < 65) (hc2 : c - 65 < 0) (hd : 1 ≤ d) (H26 : h 26 = .inr (11, g26)) : cp_C G d m_M_run [.ref (cp_b G + 26), .int c] h 87 z (some (.int 0)) (va_up h 26 (.inr (11, (va_up g26 0 (.int 1))))) 87 (z + 0) := by
  refine cp_C.of rfl (Nat.le_of_ble_eq_true rfl) ?_
  refine vv_aload_n (pc := 0) d_M_run_0 rfl ?_
  refine vv_iload_n (pc := 1) d_M_run_1 rfl ?_
  refine vv_callS (pc := 2) (As := [.int c]) d_M_run_2 (x_M_isLetter_10 (c := c) hc1 hc2 (d := d - 1) (by omega)) k_M_isLetter ml_M_215.1 ml_M_215.2 (by omega) (Nat.le_of_ble_eq_true rfl) ?_
  refine vv_if_eq (pc := 5) (tgt := 21) d_M_run_5 rfl (fun _ => ?_) (fun hc => absurd (by decide +kernel) hc)
  refine vv_iconst (pc := 21) (v := 1) d_M_run_21 rfl ?_
  refine vv_goto (pc := 22) (tgt := 26) d_M_run_22 rfl ?_
  refine vv_putf (pc := 26) d_M_run_26 fl_M_184 (by decide) H26 rfl rfl rfl ?_
  refine vv_aload_n (pc := 29) d_M_run_29 rfl ?_
  refine vv_getf (pc := 30) d_M_run_30 fl_M_184 (by decide) rfl rfl ?_
  refine vv_if_le (pc := 33) (tgt := 38) d_M_run_33 rfl (fun hc => absurd hc (by decide +kernel)) (fun _ => ?_)
  refine vv_iconst (pc := 36) (v := 0) d_M_run_36 rfl ?_
  exact vv_iret (pc := 37) d_M_run_37 rfl
theorem x_M_thrown_11 {G : cp_G} {h : Nat → cp_E} {z d : Nat} {g26 : Nat → Value} {c : Int32} (hc1 : c < 65) (hc2 : c - 65 < 0) (hd : 0 ≤ d) (H26 : h 26 = .inr (11, g26)) (E26_0 : g26 0 = .int 1) : cp_C G d m_M_thrown [.ref (cp_b G + 26)] h 87 z (some (.int 1)) h 87 (z + 0) := by
  refine cp_C.of rfl (Nat.le_of_ble_eq_true rfl) ?_
  refine vv_aload_n (pc := 0) d_M_thrown_0 rfl ?_
  refine vv_getf (pc := 1) d_M_thrown_1 fl_M_184 (by decide) H26 E26_0 ?_
  exact vv_iret (pc := 4) d_M_thrown_4 rfl
theorem p_law_7_lo {G : cp_G} {h : Nat → cp_E} {z d bb : Nat} {xs : Nat → Int32} {g0 g3 g26 : Nat → Value} {c : Int32} (hc1 : c < 65) (hc2 : c - 65 < 0) (hS : cp_scr G bb 2 xs) (hcx : ((xs 1).toUInt32 % 65536).toInt32 = c) (hd : 8 ≤ d) (H0 : h 0 = .inr (0, g0)) (E0_4 : g0 4 = .ref (cp_b G + 3)) (H3 : h 3 = .inr (1, g3)) (H26 : h 26 = .inr (11, g26)) : cp_V G m_law d 0 0 (.inl (some (.int 1))) (va_up (va_up h 86 cp_junk) 26 (.inr (11, (va_up g26 0 (.int 1))))) 87 (z + 6) 355 [(4, .int 0), (3, .ref (cp_b G + 85)), (2, .ref (cp_b G + 26)), (1, .ref (cp_b G + 0)), (0, .ref bb)] [] h 86 z := by
  refine vv_aload_n (pc := 355) d_law_355 rfl ?_
  refine vv_aload_n (pc := 356) d_law_356 rfl ?_
  refine vv_iload (pc := 357) d_law_357 rfl ?_
  refine vv_iconst (pc := 359) (v := 1) d_law_359 rfl ?_
  refine vv_iadd (pc := 360) d_law_360 ?_
  refine vv_topi (y := 1) (by decide +kernel) ?_
  refine vv_sld (pc := 361) hS d_law_361 (by unfold vp_in; decide +kernel) ?_
  refine vv_topi (y := xs 1) (congrArg xs (by decide +kernel)) ?_
  refine vv_i2c (pc := 362) d_law_362 ?_
  refine vv_topi (y := c) hcx ?_
  refine vv_aload_n (pc := 363) d_law_363 rfl ?_
  refine vv_callSW (pc := 364) (As := [.ref (cp_b G + 0), .int c, .ref (cp_b G + 85)]) (hh := [(0, 9, 12, 13)]) d_law_364 (x_L_run (c := c) hc1 hc2 (d := d - 1) (by omega) H0 E0_4 H3) cw_L_run ci_L_run (by decide) ⟨by decide, by decide⟩ cn_L_run ml_L_69.1 ml_L_69.2 (by omega) (Nat.le_of_ble_eq_true rfl) ?_
  refine vv_istore (pc := 367) d_law_367 (Nat.le_of_ble_eq_true rfl) ?_
  refine vv_aload_n (pc := 369) d_law_369 rfl ?_
  refine vv_aload_n (pc := 370) d_law_370 rfl ?_
  refine vv_iload (pc := 371) d_law_371 rfl ?_
  refine vv_iconst (pc := 373) (v := 1) d_law_373 rfl ?_
  refine vv_iadd (pc := 374) d_law_374 ?_
  refine vv_topi (y := 1) (by decide +kernel) ?_
  refine vv_sld (pc := 375) hS d_law_375 (by unfold vp_in; decide +kernel) ?_
  refine vv_topi (y := xs 1) (congrArg xs (by decide +kernel)) ?_
  refine vv_i2c (pc := 376) d_law_376 ?_
  refine vv_topi (y := c) hcx ?_
  refine vv_callV (pc := 377) (As := [.int c]) d_law_377 (x_M_run (c := c) hc1 hc2 (d := d - 1) (by omega) H26) k_M_run ml_L_71.1 ml_L_71.2.1 ml_L_71.2.2.1 ml_L_71.2.2.2.1 ml_L_71.2.2.2.2 (by decide) H26 (by omega) (Nat.le_of_ble_eq_true rfl) ?_
  refine vv_istore (pc := 380) d_law_380 (Nat.le_of_ble_eq_true rfl) ?_
  refine vv_aload_n (pc := 382) d_law_382 rfl ?_
  refine vv_callV (pc := 383) (As := []) d_law_383 (x_M_thrown_11 (c := c) hc1 hc2 (d := d - 1) (by omega) rfl rfl) k_M_thrown ml_L_51.1 ml_L_51.2.1 ml_L_51.2.2.1 ml_L_51.2.2.2.1 ml_L_51.2.2.2.2 (by decide) rfl (by omega) (Nat.le_of_ble_eq_true rfl) ?_
  refine vv_iload (pc := 386) d_law_386 rfl ?_
  refine vv_icmp_eq (pc := 388) (tgt := 393) d_law_388 rfl (fun _ => ?_) (fun hc => absurd (by decide +kernel) hc)
  refine vv_iload (pc := 393) d_law_393 rfl ?_
  refine vv_if_ne (pc := 395) (tgt := 410) d_law_395 rfl (fun _ => ?_) (fun hc => absurd hc (by decide +kernel))
  refine vv_goto (pc := 410) (tgt := 518) d_law_410 rfl ?_
  refine vv_iinc (pc := 518) (v := 2) d_law_518 rfl (by decide +kernel) (Nat.le_of_ble_eq_true rfl) ?_
  refine vv_goto (pc := 521) (tgt := 23) d_law_521 rfl ?_
  refine vv_iload (pc := 23) d_law_23 rfl ?_
  refine vv_aload_n (pc := 25) d_law_25 rfl ?_
  refine vv_slen (pc := 26) hS d_law_26 ?_
  refine vv_topi (y := 2) (by decide +kernel) ?_
  refine vv_iconst (pc := 27) (v := 2) d_law_27 rfl ?_
  refine vv_isub (pc := 28) d_law_28 ?_
  refine vv_topi (y := 0) (by decide +kernel) ?_
  refine vv_icmp_gt (pc := 29) (tgt := 524) d_law_29 rfl (fun _ => ?_) (fun hc => absurd (by decide +kernel) hc)
  refine vv_iconst (pc := 524) (v := 1) d_law_524 rfl ?_
  exact vv_zret (pc := 525) d_law_525 rfl rfl
theorem x_D_find_5 {G : cp_G} {h : Nat → cp_E} {z d : Nat} {c : Int32} (hc1 : ¬ c < 65) (hc2 : 90 < c) (hc3 : ¬ c - 65 < 0) (hc4 : 26 ≤ c - 65) (hd : 0 ≤ d) : cp_C G d m_D_find [.ref (cp_b G + 3), .int c] h 86 z (some (.null)) h 86 (z + 0) := by
  refine cp_C.of rfl (Nat.le_of_ble_eq_true rfl) ?_
  refine vv_iload_n (pc := 0) d_D_find_0 rfl ?_
  refine vv_bipush (pc := 1) (v := 65) d_D_find_1 rfl ?_
  refine vv_isub (pc := 3) d_D_find_3 ?_
  refine vv_istore_n (pc := 4) d_D_find_4 (Nat.le_of_ble_eq_true rfl) ?_
  refine vv_iload_n (pc := 5) d_D_find_5 rfl ?_
  refine vv_if_lt (pc := 6) (tgt := 24) d_D_find_6 rfl (fun hc => absurd hc hc3) (fun _ => ?_)
  refine vv_iload_n (pc := 9) d_D_find_9 rfl ?_
  refine vv_bipush (pc := 10) (v := 26) d_D_find_10 rfl ?_
  refine vv_icmp_ge (pc := 12) (tgt := 24) d_D_find_12 rfl (fun _ => ?_) (fun hc => absurd hc4 hc)
  refine vv_null (pc := 24) d_D_find_24 ?_
  exact vv_aret (pc := 25) d_D_find_25 rfl (Or.inl ⟨_, rfl⟩) cp_isr_n
theorem x_P_run_2 {G : cp_G} {h : Nat → cp_E} {z d : Nat} {g0 g3 : Nat → Value} {c : Int32} (hc1 : ¬ c < 65) (hc2 : 90 < c) (hc3 : ¬ c - 65 < 0) (hc4 : 26 ≤ c - 65) (hd : 6 ≤ d) (H0 : h 0 = .inr (0, g0)) (E0_4 : g0 4 = .ref (cp_b G + 3)) (H3 : h 3 = .inr (1, g3)) : cp_CT G d m_P_run [.ref (cp_b G + 0), .int c] h 86 z 12 86 (va_up h 86 cp_junk) 87 (z + 6) := by
  refine cp_CT.of rfl (Nat.le_of_ble_eq_true rfl) ?_
  refine vv_aload_n (pc := 0) d_P_run_0 rfl ?_
  refine vv_getf (pc := 1) d_P_run_1 fl_P_26 (by decide) H0 E0_4 ?_
  refine vv_iload_n (pc := 4) d_P_run_4 rfl ?_
  refine vv_callV (pc := 5) (As := [.int c]) d_P_run_5 (x_D_find_5 (c := c) hc1 hc2 hc3 hc4 (d := d - 1) (by omega)) k_D_find ml_P_169.1 ml_P_169.2.1 ml_P_169.2.2.1 ml_P_169.2.2.2.1 ml_P_169.2.2.2.2 (by decide) H3 (by omega) (Nat.le_of_ble_eq_true rfl) ?_
  refine vv_astore_n (pc := 8) d_P_run_8 cp_isr_n (Nat.le_of_ble_eq_true rfl) ?_
  refine vv_aload_nN (pc := 9) d_P_run_9 rfl ?_
  refine vv_ifnullN (pc := 10) (tgt := 20) d_P_run_10 rfl ?_
  exact vv_throw (pc := 20) (tx := "no program") d_P_run_20 d_P_run_23 d_P_run_24 d_P_run_26 d_P_run_29 cp_ok12 cl_P_176 rfl cp_thr12 (by decide) cp_fit12 (by omega) (Nat.le_of_ble_eq_true rfl) k_P_run.1
theorem x_L_run_2 {G : cp_G} {h : Nat → cp_E} {z d : Nat} {g0 g3 : Nat → Value} {c : Int32} (hc1 : ¬ c < 65) (hc2 : 90 < c) (hc3 : ¬ c - 65 < 0) (hc4 : 26 ≤ c - 65) (hd : 7 ≤ d) (H0 : h 0 = .inr (0, g0)) (E0_4 : g0 4 = .ref (cp_b G + 3)) (H3 : h 3 = .inr (1, g3)) : cp_CW G d m_L_run [(0, 9, 12, 13)] [.ref (cp_b G + 0), .int c, .ref (cp_b G + 85)] h 86 z (some (.int 1)) (va_up h 86 cp_junk) 87 (z + 6) := by
  refine cp_CW.of rfl (Nat.le_of_ble_eq_true rfl) ?_
  refine vv_aload_n (pc := 0) d_L_run_0 rfl ?_
  refine vv_iconst (pc := 1) (v := 0) d_L_run_1 rfl ?_
  refine vv_aload_n (pc := 2) d_L_run_2 rfl ?_
  refine vv_iload_n (pc := 3) d_L_run_3 rfl ?_
  refine vv_catch (pc := 4) (As := [.int c]) (hh := [(0, 9, 12, 13)]) (hpc := 12) d_L_run_4 (x_P_run_2 (c := c) hc1 hc2 hc3 hc4 (d := d - 1) (by omega) H0 E0_4 H3) k_P_run ml_L_28.1 ml_L_28.2.1 ml_L_28.2.2.1 ml_L_28.2.2.2.1 ml_L_28.2.2.2.2 (by decide) H0 (by omega) (Nat.le_of_ble_eq_true rfl) (List.mem_of_getElem? (i := 4) rfl) rfl cl_L_13 cl_L_15 rfl ?_
  refine vv_astore_n (pc := 12) d_L_run_12 cp_isr_r (Nat.le_of_ble_eq_true rfl) ?_
  refine vv_iconst (pc := 13) (v := 1) d_L_run_13 rfl ?_
  exact vv_iret (pc := 14) d_L_run_14 rfl
theorem x_M_isLetter_11 {G : cp_G} {h : Nat → cp_E} {z d : Nat} {c : Int32} (hc1 : ¬ c < 65) (hc2 : 90 < c) (hc3 : ¬ c - 65 < 0) (hc4 : 26 ≤ c - 65) (hd : 0 ≤ d) : cp_C G d m_M_isLetter [.int c] h 87 z (some (.int 0)) h 87 (z + 0) := by
  refine cp_C.of rfl (Nat.le_of_ble_eq_true rfl) ?_
  refine vv_iload_n (pc := 0) d_M_isLetter_0 rfl ?_
  refine vv_bipush (pc := 1) (v := 65) d_M_isLetter_1 rfl ?_
  refine vv_icmp_lt (pc := 3) (tgt := 16) d_M_isLetter_3 rfl (fun hc => absurd hc hc1) (fun _ => ?_)
  refine vv_iload_n (pc := 6) d_M_isLetter_6 rfl ?_
  refine vv_bipush (pc := 7) (v := 90) d_M_isLetter_7 rfl ?_
  refine vv_icmp_gt (pc := 9) (tgt := 16) d_M_isLetter_9 rfl (fun _ => ?_) (fun hc => absurd hc2 hc)
  refine vv_iconst (pc := 16) (v := 0) d_M_isLetter_16 rfl ?_
  exact vv_zret (pc := 17) d_M_isLetter_17 rfl rfl
theorem x_M_run_2 {G : cp_G} {h : Nat → cp_E} {z d : Nat} {g26 : Nat → Value} {c : Int32} (hc1 : ¬ c < 65) (hc2 : 90 < c) (hc3 : ¬ c - 65 < 0) (hc4 : 26 ≤ c - 65) (hd : 1 ≤ d) (H26 : h 26 = .inr (11, g26)) : cp_C G d m_M_run [.ref (cp_b G + 26), .int c] h 87 z (some (.int 0)) (va_up h 26 (.inr (11, (va_up g26 0 (.int 1))))) 87 (z + 0) := by
  refine cp_C.of rfl (Nat.le_of_ble_eq_true rfl) ?_
  refine vv_aload_n (pc := 0) d_M_run_0 rfl ?_
  refine vv_iload_n (pc := 1) d_M_run_1 rfl ?_
  refine vv_callS (pc := 2) (As := [.int c]) d_M_run_2 (x_M_isLetter_11 (c := c) hc1 hc2 hc3 hc4 (d := d - 1) (by omega)) k_M_isLetter ml_M_215.1 ml_M_215.2 (by omega) (Nat.le_of_ble_eq_true rfl) ?_
  refine vv_if_eq (pc := 5) (tgt := 21) d_M_run_5 rfl (fun _ => ?_) (fun hc => absurd (by decide +kernel) hc)
  refine vv_iconst (pc := 21) (v := 1) d_M_run_21 rfl ?_
  refine vv_goto (pc := 22) (tgt := 26) d_M_run_22 rfl ?_
  refine vv_putf (pc := 26) d_M_run_26 fl_M_184 (by decide) H26 rfl rfl rfl ?_
  refine vv_aload_n (pc := 29) d_M_run_29 rfl ?_
  refine vv_getf (pc := 30) d_M_run_30 fl_M_184 (by decide) rfl rfl ?_
  refine vv_if_le (pc := 33) (tgt := 38) d_M_run_33 rfl (fun hc => absurd hc (by decide +kernel)) (fun _ => ?_)
  refine vv_iconst (pc := 36) (v := 0) d_M_run_36 rfl ?_
  exact vv_iret (pc := 37) d_M_run_37 rfl
theorem x_M_thrown_12 {G : cp_G} {h : Nat → cp_E} {z d : Nat} {g26 : Nat → Value} {c : Int32} (hc1 : ¬ c < 65) (hc2 : 90 < c) (hc3 : ¬ c - 65 < 0) (hc4 : 26 ≤ c - 65) (hd : 0 ≤ d) (H26 : h 26 = .inr (11, g26)) (E26_0 : g26 0 = .int 1) : cp_C G d m_M_thrown [.ref (cp_b G + 26)] h 87 z (some (.int 1)) h 87 (z + 0) := by
  refine cp_C.of rfl (Nat.le_of_ble_eq_true rfl) ?_
  refine vv_aload_n (pc := 0) d_M_thrown_0 rfl ?_
  refine vv_getf (pc := 1) d_M_thrown_1 fl_M_184 (by decide) H26 E26_0 ?_
  exact vv_iret (pc := 4) d_M_thrown_4 rfl
theorem p_law_7_hi {G : cp_G} {h : Nat → cp_E} {z d bb : Nat} {xs : Nat → Int32} {g0 g3 g26 : Nat → Value} {c : Int32} (hc1 : ¬ c < 65) (hc2 : 90 < c) (hc3 : ¬ c - 65 < 0) (hc4 : 26 ≤ c - 65) (hS : cp_scr G bb 2 xs) (hcx : ((xs 1).toUInt32 % 65536).toInt32 = c) (hd : 8 ≤ d) (H0 : h 0 = .inr (0, g0)) (E0_4 : g0 4 = .ref (cp_b G + 3)) (H3 : h 3 = .inr (1, g3)) (H26 : h 26 = .inr (11, g26)) : cp_V G m_law d 0 0 (.inl (some (.int 1))) (va_up (va_up h 86 cp_junk) 26 (.inr (11, (va_up g26 0 (.int 1))))) 87 (z + 6) 355 [(4, .int 0), (3, .ref (cp_b G + 85)), (2, .ref (cp_b G + 26)), (1, .ref (cp_b G + 0)), (0, .ref bb)] [] h 86 z := by
  refine vv_aload_n (pc := 355) d_law_355 rfl ?_
  refine vv_aload_n (pc := 356) d_law_356 rfl ?_
  refine vv_iload (pc := 357) d_law_357 rfl ?_
  refine vv_iconst (pc := 359) (v := 1) d_law_359 rfl ?_
  refine vv_iadd (pc := 360) d_law_360 ?_
  refine vv_topi (y := 1) (by decide +kernel) ?_
  refine vv_sld (pc := 361) hS d_law_361 (by unfold vp_in; decide +kernel) ?_
  refine vv_topi (y := xs 1) (congrArg xs (by decide +kernel)) ?_
  refine vv_i2c (pc := 362) d_law_362 ?_
  refine vv_topi (y := c) hcx ?_
  refine vv_aload_n (pc := 363) d_law_363 rfl ?_
  refine vv_callSW (pc := 364) (As := [.ref (cp_b G + 0), .int c, .ref (cp_b G + 85)]) (hh := [(0, 9, 12, 13)]) d_law_364 (x_L_run_2 (c := c) hc1 hc2 hc3 hc4 (d := d - 1) (by omega) H0 E0_4 H3) cw_L_run ci_L_run (by decide) ⟨by decide, by decide⟩ cn_L_run ml_L_69.1 ml_L_69.2 (by omega) (Nat.le_of_ble_eq_true rfl) ?_
  refine vv_istore (pc := 367) d_law_367 (Nat.le_of_ble_eq_true rfl) ?_
  refine vv_aload_n (pc := 369) d_law_369 rfl ?_
  refine vv_aload_n (pc := 370) d_law_370 rfl ?_
  refine vv_iload (pc := 371) d_law_371 rfl ?_
  refine vv_iconst (pc := 373) (v := 1) d_law_373 rfl ?_
  refine vv_iadd (pc := 374) d_law_374 ?_
  refine vv_topi (y := 1) (by decide +kernel) ?_
  refine vv_sld (pc := 375) hS d_law_375 (by unfold vp_in; decide +kernel) ?_
  refine vv_topi (y := xs 1) (congrArg xs (by decide +kernel)) ?_
  refine vv_i2c (pc := 376) d_law_376 ?_
  refine vv_topi (y := c) hcx ?_
  refine vv_callV (pc := 377) (As := [.int c]) d_law_377 (x_M_run_2 (c := c) hc1 hc2 hc3 hc4 (d := d - 1) (by omega) H26) k_M_run ml_L_71.1 ml_L_71.2.1 ml_L_71.2.2.1 ml_L_71.2.2.2.1 ml_L_71.2.2.2.2 (by decide) H26 (by omega) (Nat.le_of_ble_eq_true rfl) ?_
  refine vv_istore (pc := 380) d_law_380 (Nat.le_of_ble_eq_true rfl) ?_
  refine vv_aload_n (pc := 382) d_law_382 rfl ?_
  refine vv_callV (pc := 383) (As := []) d_law_383 (x_M_thrown_12 (c := c) hc1 hc2 hc3 hc4 (d := d - 1) (by omega) rfl rfl) k_M_thrown ml_L_51.1 ml_L_51.2.1 ml_L_51.2.2.1 ml_L_51.2.2.2.1 ml_L_51.2.2.2.2 (by decide) rfl (by omega) (Nat.le_of_ble_eq_true rfl) ?_
  refine vv_iload (pc := 386) d_law_386 rfl ?_
  refine vv_icmp_eq (pc := 388) (tgt := 393) d_law_388 rfl (fun _ => ?_) (fun hc => absurd (by decide +kernel) hc)
  refine vv_iload (pc := 393) d_law_393 rfl ?_
  refine vv_if_ne (pc := 395) (tgt := 410) d_law_395 rfl (fun _ => ?_) (fun hc => absurd hc (by decide +kernel))
  refine vv_goto (pc := 410) (tgt := 518) d_law_410 rfl ?_
  refine vv_iinc (pc := 518) (v := 2) d_law_518 rfl (by decide +kernel) (Nat.le_of_ble_eq_true rfl) ?_
  refine vv_goto (pc := 521) (tgt := 23) d_law_521 rfl ?_
  refine vv_iload (pc := 23) d_law_23 rfl ?_
  refine vv_aload_n (pc := 25) d_law_25 rfl ?_
  refine vv_slen (pc := 26) hS d_law_26 ?_
  refine vv_topi (y := 2) (by decide +kernel) ?_
  refine vv_iconst (pc := 27) (v := 2) d_law_27 rfl ?_
  refine vv_isub (pc := 28) d_law_28 ?_
  refine vv_topi (y := 0) (by decide +kernel) ?_
  refine vv_icmp_gt (pc := 29) (tgt := 524) d_law_29 rfl (fun _ => ?_) (fun hc => absurd (by decide +kernel) hc)
  refine vv_iconst (pc := 524) (v := 1) d_law_524 rfl ?_
  exact vv_zret (pc := 525) d_law_525 rfl rfl
theorem x_D_find_6 {G : cp_G} {h : Nat → cp_E} {z d : Nat} {g3 : Nat → Value} {c : Int32} (hc1 : ¬ c < 65) (hc2 : ¬ 90 < c) (hc3 : ¬ c - 65 < 0) (hc4 : ¬ 26 ≤ c - 65) (hc5 : vp_in (c - 65) 26) (hd : 0 ≤ d) (H3 : h 3 = .inr (1, g3)) (E3_0 : g3 0 = .ref (cp_b G + 4)) (H4 : h 4 = .inl (cp_cE G, 26, .inr (.inr (.inr (.inr (fun _ => none)))))) : cp_C G d m_D_find [.ref (cp_b G + 3), .int c] h 86 z (some (.null)) h 86 (z + 0) := by
  refine cp_C.of rfl (Nat.le_of_ble_eq_true rfl) ?_
  refine vv_iload_n (pc := 0) d_D_find_0 rfl ?_
  refine vv_bipush (pc := 1) (v := 65) d_D_find_1 rfl ?_
  refine vv_isub (pc := 3) d_D_find_3 ?_
  refine vv_istore_n (pc := 4) d_D_find_4 (Nat.le_of_ble_eq_true rfl) ?_
  refine vv_iload_n (pc := 5) d_D_find_5 rfl ?_
  refine vv_if_lt (pc := 6) (tgt := 24) d_D_find_6 rfl (fun hc => absurd hc hc3) (fun _ => ?_)
  refine vv_iload_n (pc := 9) d_D_find_9 rfl ?_
  refine vv_bipush (pc := 10) (v := 26) d_D_find_10 rfl ?_
  refine vv_icmp_ge (pc := 12) (tgt := 24) d_D_find_12 rfl (fun hc => absurd hc hc4) (fun _ => ?_)
  refine vv_aload_n (pc := 15) d_D_find_15 rfl ?_
  refine vv_getf (pc := 16) d_D_find_16 fl_D_11 (by decide) H3 E3_0 ?_
  refine vv_iload_n (pc := 19) d_D_find_19 rfl ?_
  refine vv_aald (pc := 20) d_D_find_20 (by decide) H4 hc5 ?_
  refine vv_topv (y := .null) rfl ?_
  refine vv_goto (pc := 21) (tgt := 25) d_D_find_21 rfl ?_
  exact vv_aret (pc := 25) d_D_find_25 rfl (Or.inl ⟨_, rfl⟩) cp_isr_n
theorem x_P_run_3 {G : cp_G} {h : Nat → cp_E} {z d : Nat} {g0 g3 : Nat → Value} {c : Int32} (hc1 : ¬ c < 65) (hc2 : ¬ 90 < c) (hc3 : ¬ c - 65 < 0) (hc4 : ¬ 26 ≤ c - 65) (hc5 : vp_in (c - 65) 26) (hd : 6 ≤ d) (H0 : h 0 = .inr (0, g0)) (E0_4 : g0 4 = .ref (cp_b G + 3)) (H3 : h 3 = .inr (1, g3)) (E3_0 : g3 0 = .ref (cp_b G + 4)) (H4 : h 4 = .inl (cp_cE G, 26, .inr (.inr (.inr (.inr (fun _ => none)))))) : cp_CT G d m_P_run [.ref (cp_b G + 0), .int c] h 86 z 12 86 (va_up h 86 cp_junk) 87 (z + 6) := by
  refine cp_CT.of rfl (Nat.le_of_ble_eq_true rfl) ?_
  refine vv_aload_n (pc := 0) d_P_run_0 rfl ?_
  refine vv_getf (pc := 1) d_P_run_1 fl_P_26 (by decide) H0 E0_4 ?_
  refine vv_iload_n (pc := 4) d_P_run_4 rfl ?_
  refine vv_callV (pc := 5) (As := [.int c]) d_P_run_5 (x_D_find_6 (c := c) hc1 hc2 hc3 hc4 hc5 (d := d - 1) (by omega) H3 E3_0 H4) k_D_find ml_P_169.1 ml_P_169.2.1 ml_P_169.2.2.1 ml_P_169.2.2.2.1 ml_P_169.2.2.2.2 (by decide) H3 (by omega) (Nat.le_of_ble_eq_true rfl) ?_
  refine vv_astore_n (pc := 8) d_P_run_8 cp_isr_n (Nat.le_of_ble_eq_true rfl) ?_
  refine vv_aload_nN (pc := 9) d_P_run_9 rfl ?_
  refine vv_ifnullN (pc := 10) (tgt := 20) d_P_run_10 rfl ?_
  exact vv_throw (pc := 20) (tx := "no program") d_P_run_20 d_P_run_23 d_P_run_24 d_P_run_26 d_P_run_29 cp_ok12 cl_P_176 rfl cp_thr12 (by decide) cp_fit12 (by omega) (Nat.le_of_ble_eq_true rfl) k_P_run.1
theorem x_L_run_3 {G : cp_G} {h : Nat → cp_E} {z d : Nat} {g0 g3 : Nat → Value} {c : Int32} (hc1 : ¬ c < 65) (hc2 : ¬ 90 < c) (hc3 : ¬ c - 65 < 0) (hc4 : ¬ 26 ≤ c - 65) (hc5 : vp_in (c - 65) 26) (hd : 7 ≤ d) (H0 : h 0 = .inr (0, g0)) (E0_4 : g0 4 = .ref (cp_b G + 3)) (H3 : h 3 = .inr (1, g3)) (E3_0 : g3 0 = .ref (cp_b G + 4)) (H4 : h 4 = .inl (cp_cE G, 26, .inr (.inr (.inr (.inr (fun _ => none)))))) : cp_CW G d m_L_run [(0, 9, 12, 13)] [.ref (cp_b G + 0), .int c, .ref (cp_b G + 85)] h 86 z (some (.int 1)) (va_up h 86 cp_junk) 87 (z + 6) := by
  refine cp_CW.of rfl (Nat.le_of_ble_eq_true rfl) ?_
  refine vv_aload_n (pc := 0) d_L_run_0 rfl ?_
  refine vv_iconst (pc := 1) (v := 0) d_L_run_1 rfl ?_
  refine vv_aload_n (pc := 2) d_L_run_2 rfl ?_
  refine vv_iload_n (pc := 3) d_L_run_3 rfl ?_
  refine vv_catch (pc := 4) (As := [.int c]) (hh := [(0, 9, 12, 13)]) (hpc := 12) d_L_run_4 (x_P_run_3 (c := c) hc1 hc2 hc3 hc4 hc5 (d := d - 1) (by omega) H0 E0_4 H3 E3_0 H4) k_P_run ml_L_28.1 ml_L_28.2.1 ml_L_28.2.2.1 ml_L_28.2.2.2.1 ml_L_28.2.2.2.2 (by decide) H0 (by omega) (Nat.le_of_ble_eq_true rfl) (List.mem_of_getElem? (i := 4) rfl) rfl cl_L_13 cl_L_15 rfl ?_
  refine vv_astore_n (pc := 12) d_L_run_12 cp_isr_r (Nat.le_of_ble_eq_true rfl) ?_
  refine vv_iconst (pc := 13) (v := 1) d_L_run_13 rfl ?_
  exact vv_iret (pc := 14) d_L_run_14 rfl
theorem x_M_isLetter_12 {G : cp_G} {h : Nat → cp_E} {z d : Nat} {c : Int32} (hc1 : ¬ c < 65) (hc2 : ¬ 90 < c) (hc3 : ¬ c - 65 < 0) (hc4 : ¬ 26 ≤ c - 65) (hc5 : vp_in (c - 65) 26) (hd : 0 ≤ d) : cp_C G d m_M_isLetter [.int c] h 87 z (some (.int 1)) h 87 (z + 0) := by
  refine cp_C.of rfl (Nat.le_of_ble_eq_true rfl) ?_
  refine vv_iload_n (pc := 0) d_M_isLetter_0 rfl ?_
  refine vv_bipush (pc := 1) (v := 65) d_M_isLetter_1 rfl ?_
  refine vv_icmp_lt (pc := 3) (tgt := 16) d_M_isLetter_3 rfl (fun hc => absurd hc hc1) (fun _ => ?_)
  refine vv_iload_n (pc := 6) d_M_isLetter_6 rfl ?_
  refine vv_bipush (pc := 7) (v := 90) d_M_isLetter_7 rfl ?_
  refine vv_icmp_gt (pc := 9) (tgt := 16) d_M_isLetter_9 rfl (fun hc => absurd hc hc2) (fun _ => ?_)
  refine vv_iconst (pc := 12) (v := 1) d_M_isLetter_12 rfl ?_
  refine vv_goto (pc := 13) (tgt := 17) d_M_isLetter_13 rfl ?_
  exact vv_zret (pc := 17) d_M_isLetter_17 rfl rfl
theorem x_M_run_3 {G : cp_G} {h : Nat → cp_E} {z d : Nat} {g26 : Nat → Value} {f30 : Nat → Int32} {c : Int32} (hc1 : ¬ c < 65) (hc2 : ¬ 90 < c) (hc3 : ¬ c - 65 < 0) (hc4 : ¬ 26 ≤ c - 65) (hc5 : vp_in (c - 65) 26) (hd : 1 ≤ d) (H26 : h 26 = .inr (11, g26)) (E26_6 : g26 6 = .ref (cp_b G + 30)) (H30 : h 30 = .inl (cp_cI G, 26, .inl f30)) (Z30 : f30 = fun _ => 0) : cp_C G d m_M_run [.ref (cp_b G + 26), .int c] h 87 z (some (.int 0)) (va_up h 26 (.inr (11, (va_up g26 0 (.int 1))))) 87 (z + 0) := by
  refine cp_C.of rfl (Nat.le_of_ble_eq_true rfl) ?_
  refine vv_aload_n (pc := 0) d_M_run_0 rfl ?_
  refine vv_iload_n (pc := 1) d_M_run_1 rfl ?_
  refine vv_callS (pc := 2) (As := [.int c]) d_M_run_2 (x_M_isLetter_12 (c := c) hc1 hc2 hc3 hc4 hc5 (d := d - 1) (by omega)) k_M_isLetter ml_M_215.1 ml_M_215.2 (by omega) (Nat.le_of_ble_eq_true rfl) ?_
  refine vv_if_eq (pc := 5) (tgt := 21) d_M_run_5 rfl (fun hc => absurd hc (by decide +kernel)) (fun _ => ?_)
  refine vv_aload_n (pc := 8) d_M_run_8 rfl ?_
  refine vv_getf (pc := 9) d_M_run_9 fl_M_19 (by decide) H26 E26_6 ?_
  refine vv_iload_n (pc := 12) d_M_run_12 rfl ?_
  refine vv_bipush (pc := 13) (v := 65) d_M_run_13 rfl ?_
  refine vv_isub (pc := 15) d_M_run_15 ?_
  refine vv_iald (pc := 16) d_M_run_16 (by decide) H30 hc5 ?_
  refine vv_topi (y := 0) (congrFun Z30 _) ?_
  refine vv_iconst (pc := 17) (v := 2) d_M_run_17 rfl ?_
  refine vv_icmp_eq (pc := 18) (tgt := 25) d_M_run_18 rfl (fun hc => absurd hc (by decide +kernel)) (fun _ => ?_)
  refine vv_iconst (pc := 21) (v := 1) d_M_run_21 rfl ?_
  refine vv_goto (pc := 22) (tgt := 26) d_M_run_22 rfl ?_
  refine vv_putf (pc := 26) d_M_run_26 fl_M_184 (by decide) H26 rfl rfl rfl ?_
  refine vv_aload_n (pc := 29) d_M_run_29 rfl ?_
  refine vv_getf (pc := 30) d_M_run_30 fl_M_184 (by decide) rfl rfl ?_
  refine vv_if_le (pc := 33) (tgt := 38) d_M_run_33 rfl (fun hc => absurd hc (by decide +kernel)) (fun _ => ?_)
  refine vv_iconst (pc := 36) (v := 0) d_M_run_36 rfl ?_
  exact vv_iret (pc := 37) d_M_run_37 rfl
theorem x_M_thrown_13 {G : cp_G} {h : Nat → cp_E} {z d : Nat} {g26 : Nat → Value} {c : Int32} (hc1 : ¬ c < 65) (hc2 : ¬ 90 < c) (hc3 : ¬ c - 65 < 0) (hc4 : ¬ 26 ≤ c - 65) (hc5 : vp_in (c - 65) 26) (hd : 0 ≤ d) (H26 : h 26 = .inr (11, g26)) (E26_0 : g26 0 = .int 1) : cp_C G d m_M_thrown [.ref (cp_b G + 26)] h 87 z (some (.int 1)) h 87 (z + 0) := by
  refine cp_C.of rfl (Nat.le_of_ble_eq_true rfl) ?_
  refine vv_aload_n (pc := 0) d_M_thrown_0 rfl ?_
  refine vv_getf (pc := 1) d_M_thrown_1 fl_M_184 (by decide) H26 E26_0 ?_
  exact vv_iret (pc := 4) d_M_thrown_4 rfl
theorem p_law_7_le {G : cp_G} {h : Nat → cp_E} {z d bb : Nat} {xs : Nat → Int32} {g0 g3 g26 : Nat → Value} {f30 : Nat → Int32} {c : Int32} (hc1 : ¬ c < 65) (hc2 : ¬ 90 < c) (hc3 : ¬ c - 65 < 0) (hc4 : ¬ 26 ≤ c - 65) (hc5 : vp_in (c - 65) 26) (hS : cp_scr G bb 2 xs) (hcx : ((xs 1).toUInt32 % 65536).toInt32 = c) (hd : 8 ≤ d) (H0 : h 0 = .inr (0, g0)) (E0_4 : g0 4 = .ref (cp_b G + 3)) (H3 : h 3 = .inr (1, g3)) (E3_0 : g3 0 = .ref (cp_b G + 4)) (H4 : h 4 = .inl (cp_cE G, 26, .inr (.inr (.inr (.inr (fun _ => none)))))) (H26 : h 26 = .inr (11, g26)) (E26_6 : g26 6 = .ref (cp_b G + 30)) (H30 : h 30 = .inl (cp_cI G, 26, .inl f30)) (Z30 : f30 = fun _ => 0) : cp_V G m_law d 0 0 (.inl (some (.int 1))) (va_up (va_up h 86 cp_junk) 26 (.inr (11, (va_up g26 0 (.int 1))))) 87 (z + 6) 355 [(4, .int 0), (3, .ref (cp_b G + 85)), (2, .ref (cp_b G + 26)), (1, .ref (cp_b G + 0)), (0, .ref bb)] [] h 86 z := by
  refine vv_aload_n (pc := 355) d_law_355 rfl ?_
  refine vv_aload_n (pc := 356) d_law_356 rfl ?_
  refine vv_iload (pc := 357) d_law_357 rfl ?_
  refine vv_iconst (pc := 359) (v := 1) d_law_359 rfl ?_
  refine vv_iadd (pc := 360) d_law_360 ?_
  refine vv_topi (y := 1) (by decide +kernel) ?_
  refine vv_sld (pc := 361) hS d_law_361 (by unfold vp_in; decide +kernel) ?_
  refine vv_topi (y := xs 1) (congrArg xs (by decide +kernel)) ?_
  refine vv_i2c (pc := 362) d_law_362 ?_
  refine vv_topi (y := c) hcx ?_
  refine vv_aload_n (pc := 363) d_law_363 rfl ?_
  refine vv_callSW (pc := 364) (As := [.ref (cp_b G + 0), .int c, .ref (cp_b G + 85)]) (hh := [(0, 9, 12, 13)]) d_law_364 (x_L_run_3 (c := c) hc1 hc2 hc3 hc4 hc5 (d := d - 1) (by omega) H0 E0_4 H3 E3_0 H4) cw_L_run ci_L_run (by decide) ⟨by decide, by decide⟩ cn_L_run ml_L_69.1 ml_L_69.2 (by omega) (Nat.le_of_ble_eq_true rfl) ?_
  refine vv_istore (pc := 367) d_law_367 (Nat.le_of_ble_eq_true rfl) ?_
  refine vv_aload_n (pc := 369) d_law_369 rfl ?_
  refine vv_aload_n (pc := 370) d_law_370 rfl ?_
  refine vv_iload (pc := 371) d_law_371 rfl ?_
  refine vv_iconst (pc := 373) (v := 1) d_law_373 rfl ?_
  refine vv_iadd (pc := 374) d_law_374 ?_
  refine vv_topi (y := 1) (by decide +kernel) ?_
  refine vv_sld (pc := 375) hS d_law_375 (by unfold vp_in; decide +kernel) ?_
  refine vv_topi (y := xs 1) (congrArg xs (by decide +kernel)) ?_
  refine vv_i2c (pc := 376) d_law_376 ?_
  refine vv_topi (y := c) hcx ?_
  refine vv_callV (pc := 377) (As := [.int c]) d_law_377 (x_M_run_3 (c := c) hc1 hc2 hc3 hc4 hc5 (d := d - 1) (by omega) H26 E26_6 H30 Z30) k_M_run ml_L_71.1 ml_L_71.2.1 ml_L_71.2.2.1 ml_L_71.2.2.2.1 ml_L_71.2.2.2.2 (by decide) H26 (by omega) (Nat.le_of_ble_eq_true rfl) ?_
  refine vv_istore (pc := 380) d_law_380 (Nat.le_of_ble_eq_true rfl) ?_
  refine vv_aload_n (pc := 382) d_law_382 rfl ?_
  refine vv_callV (pc := 383) (As := []) d_law_383 (x_M_thrown_13 (c := c) hc1 hc2 hc3 hc4 hc5 (d := d - 1) (by omega) rfl rfl) k_M_thrown ml_L_51.1 ml_L_51.2.1 ml_L_51.2.2.1 ml_L_51.2.2.2.1 ml_L_51.2.2.2.2 (by decide) rfl (by omega) (Nat.le_of_ble_eq_true rfl) ?_
  refine vv_iload (pc := 386) d_law_386 rfl ?_
  refine vv_icmp_eq (pc := 388) (tgt := 393) d_law_388 rfl (fun _ => ?_) (fun hc => absurd (by decide +kernel) hc)
  refine vv_iload (pc := 393) d_law_393 rfl ?_
  refine vv_if_ne (pc := 395) (tgt := 410) d_law_395 rfl (fun _ => ?_) (fun hc => absurd hc (by decide +kernel))
  refine vv_goto (pc := 410) (tgt := 518) d_law_410 rfl ?_
  refine vv_iinc (pc := 518) (v := 2) d_law_518 rfl (by decide +kernel) (Nat.le_of_ble_eq_true rfl) ?_
  refine vv_goto (pc := 521) (tgt := 23) d_law_521 rfl ?_
  refine vv_iload (pc := 23) d_law_23 rfl ?_
  refine vv_aload_n (pc := 25) d_law_25 rfl ?_
  refine vv_slen (pc := 26) hS d_law_26 ?_
  refine vv_topi (y := 2) (by decide +kernel) ?_
  refine vv_iconst (pc := 27) (v := 2) d_law_27 rfl ?_
  refine vv_isub (pc := 28) d_law_28 ?_
  refine vv_topi (y := 0) (by decide +kernel) ?_
  refine vv_icmp_gt (pc := 29) (tgt := 524) d_law_29 rfl (fun _ => ?_) (fun hc => absurd (by decide +kernel) hc)
  refine vv_iconst (pc := 524) (v := 1) d_law_524 rfl ?_
  exact vv_zret (pc := 525) d_law_525 rfl rfl
theorem x_D_find_7 {G : cp_G} {h : Nat → cp_E} {z d : Nat} {c : Int32} (hc1 : c < 65) (hc2 : c - 65 < 0) (hd : 0 ≤ d) : cp_C G d m_D_find [.ref (cp_b G + 3), .int c] h 86 z (some (.null)) h 86 (z + 0) := by
  refine cp_C.of rfl (Nat.le_of_ble_eq_true rfl) ?_
  refine vv_iload_n (pc := 0) d_D_find_0 rfl ?_
  refine vv_bipush (pc := 1) (v := 65) d_D_find_1 rfl ?_
  refine vv_isub (pc := 3) d_D_find_3 ?_
  refine vv_istore_n (pc := 4) d_D_find_4 (Nat.le_of_ble_eq_true rfl) ?_
  refine vv_iload_n (pc := 5) d_D_find_5 rfl ?_
  refine vv_if_lt (pc := 6) (tgt := 24) d_D_find_6 rfl (fun _ => ?_) (fun hc => absurd hc2 hc)
  refine vv_null (pc := 24) d_D_find_24 ?_
  exact vv_aret (pc := 25) d_D_find_25 rfl (Or.inl ⟨_, rfl⟩) cp_isr_n
theorem x_P_kind {G : cp_G} {h : Nat → cp_E} {z d : Nat} {g0 g3 : Nat → Value} {c : Int32} (hc1 : c < 65) (hc2 : c - 65 < 0) (hd : 1 ≤ d) (H0 : h 0 = .inr (0, g0)) (E0_4 : g0 4 = .ref (cp_b G + 3)) (H3 : h 3 = .inr (1, g3)) : cp_C G d m_P_kind [.ref (cp_b G + 0), .int c] h 86 z (some (.int 0)) h 86 (z + 0) := by
  refine cp_C.of rfl (Nat.le_of_ble_eq_true rfl) ?_
  refine vv_aload_n (pc := 0) d_P_kind_0 rfl ?_
  refine vv_getf (pc := 1) d_P_kind_1 fl_P_26 (by decide) H0 E0_4 ?_
  refine vv_iload_n (pc := 4) d_P_kind_4 rfl ?_
  refine vv_callV (pc := 5) (As := [.int c]) d_P_kind_5 (x_D_find_7 (c := c) hc1 hc2 (d := d - 1) (by omega)) k_D_find ml_P_169.1 ml_P_169.2.1 ml_P_169.2.2.1 ml_P_169.2.2.2.1 ml_P_169.2.2.2.2 (by decide) H3 (by omega) (Nat.le_of_ble_eq_true rfl) ?_
  refine vv_astore_n (pc := 8) d_P_kind_8 cp_isr_n (Nat.le_of_ble_eq_true rfl) ?_
  refine vv_aload_nN (pc := 9) d_P_kind_9 rfl ?_
  refine vv_ifnonnullN (pc := 10) d_P_kind_10 ?_
  refine vv_iconst (pc := 13) (v := 0) d_P_kind_13 rfl ?_
  exact vv_iret (pc := 14) d_P_kind_14 rfl
theorem x_M_isLetter_13 {G : cp_G} {h : Nat → cp_E} {z d : Nat} {c : Int32} (hc1 : c < 65) (hc2 : c - 65 < 0) (hd : 0 ≤ d) : cp_C G d m_M_isLetter [.int c] h 86 z (some (.int 0)) h 86 (z + 0) := by
  refine cp_C.of rfl (Nat.le_of_ble_eq_true rfl) ?_
  refine vv_iload_n (pc := 0) d_M_isLetter_0 rfl ?_
  refine vv_bipush (pc := 1) (v := 65) d_M_isLetter_1 rfl ?_
  refine vv_icmp_lt (pc := 3) (tgt := 16) d_M_isLetter_3 rfl (fun _ => ?_) (fun hc => absurd hc1 hc)
  refine vv_iconst (pc := 16) (v := 0) d_M_isLetter_16 rfl ?_
  exact vv_zret (pc := 17) d_M_isLetter_17 rfl rfl
theorem x_M_kind {G : cp_G} {h : Nat → cp_E} {z d : Nat} {g26 : Nat → Value} {c : Int32} (hc1 : c < 65) (hc2 : c - 65 < 0) (hd : 1 ≤ d) (H26 : h 26 = .inr (11, g26)) : cp_C G d m_M_kind [.ref (cp_b G + 26), .int c] h 86 z (some (.int 0)) (va_up h 26 (.inr (11, (va_up g26 0 (.int 0))))) 86 (z + 0) := by
  refine cp_C.of rfl (Nat.le_of_ble_eq_true rfl) ?_
  refine vv_aload_n (pc := 0) d_M_kind_0 rfl ?_
  refine vv_iconst (pc := 1) (v := 0) d_M_kind_1 rfl ?_
  refine vv_putf (pc := 2) d_M_kind_2 fl_M_184 (by decide) H26 rfl rfl rfl ?_
  refine vv_iload_n (pc := 5) d_M_kind_5 rfl ?_
  refine vv_callS (pc := 6) (As := [.int c]) d_M_kind_6 (x_M_isLetter_13 (c := c) hc1 hc2 (d := d - 1) (by omega)) k_M_isLetter ml_M_215.1 ml_M_215.2 (by omega) (Nat.le_of_ble_eq_true rfl) ?_
  refine vv_if_eq (pc := 9) (tgt := 24) d_M_kind_9 rfl (fun _ => ?_) (fun hc => absurd (by decide +kernel) hc)
  refine vv_iconst (pc := 24) (v := 0) d_M_kind_24 rfl ?_
  exact vv_iret (pc := 25) d_M_kind_25 rfl
theorem p_law_9_lo {G : cp_G} {h : Nat → cp_E} {z d bb : Nat} {xs : Nat → Int32} {g0 g3 g26 : Nat → Value} {c : Int32} (hc1 : c < 65) (hc2 : c - 65 < 0) (hS : cp_scr G bb 2 xs) (hcx : ((xs 1).toUInt32 % 65536).toInt32 = c) (hd : 2 ≤ d) (H0 : h 0 = .inr (0, g0)) (E0_4 : g0 4 = .ref (cp_b G + 3)) (H3 : h 3 = .inr (1, g3)) (H26 : h 26 = .inr (11, g26)) : cp_V G m_law d 0 0 (.inl (some (.int 1))) (va_up h 26 (.inr (11, (va_up g26 0 (.int 0))))) 86 (z + 0) 426 [(4, .int 0), (3, .ref (cp_b G + 85)), (2, .ref (cp_b G + 26)), (1, .ref (cp_b G + 0)), (0, .ref bb)] [] h 86 z := by
  refine vv_aload_n (pc := 426) d_law_426 rfl ?_
  refine vv_aload_n (pc := 427) d_law_427 rfl ?_
  refine vv_iload (pc := 428) d_law_428 rfl ?_
  refine vv_iconst (pc := 430) (v := 1) d_law_430 rfl ?_
  refine vv_iadd (pc := 431) d_law_431 ?_
  refine vv_topi (y := 1) (by decide +kernel) ?_
  refine vv_sld (pc := 432) hS d_law_432 (by unfold vp_in; decide +kernel) ?_
  refine vv_topi (y := xs 1) (congrArg xs (by decide +kernel)) ?_
  refine vv_i2c (pc := 433) d_law_433 ?_
  refine vv_topi (y := c) hcx ?_
  refine vv_callV (pc := 434) (As := [.int c]) d_law_434 (x_P_kind (c := c) hc1 hc2 (d := d - 1) (by omega) H0 E0_4 H3) k_P_kind ml_L_76.1 ml_L_76.2.1 ml_L_76.2.2.1 ml_L_76.2.2.2.1 ml_L_76.2.2.2.2 (by decide) H0 (by omega) (Nat.le_of_ble_eq_true rfl) ?_
  refine vv_aload_n (pc := 437) d_law_437 rfl ?_
  refine vv_aload_n (pc := 438) d_law_438 rfl ?_
  refine vv_iload (pc := 439) d_law_439 rfl ?_
  refine vv_iconst (pc := 441) (v := 1) d_law_441 rfl ?_
  refine vv_iadd (pc := 442) d_law_442 ?_
  refine vv_topi (y := 1) (by decide +kernel) ?_
  refine vv_sld (pc := 443) hS d_law_443 (by unfold vp_in; decide +kernel) ?_
  refine vv_topi (y := xs 1) (congrArg xs (by decide +kernel)) ?_
  refine vv_i2c (pc := 444) d_law_444 ?_
  refine vv_topi (y := c) hcx ?_
  refine vv_callV (pc := 445) (As := [.int c]) d_law_445 (x_M_kind (c := c) hc1 hc2 (d := d - 1) (by omega) H26) k_M_kind ml_L_79.1 ml_L_79.2.1 ml_L_79.2.2.1 ml_L_79.2.2.2.1 ml_L_79.2.2.2.2 (by decide) H26 (by omega) (Nat.le_of_ble_eq_true rfl) ?_
  refine vv_icmp_eq (pc := 448) (tgt := 518) d_law_448 rfl (fun _ => ?_) (fun hc => absurd (by decide +kernel) hc)
  refine vv_iinc (pc := 518) (v := 2) d_law_518 rfl (by decide +kernel) (Nat.le_of_ble_eq_true rfl) ?_
  refine vv_goto (pc := 521) (tgt := 23) d_law_521 rfl ?_
  refine vv_iload (pc := 23) d_law_23 rfl ?_
  refine vv_aload_n (pc := 25) d_law_25 rfl ?_
  refine vv_slen (pc := 26) hS d_law_26 ?_
  refine vv_topi (y := 2) (by decide +kernel) ?_
  refine vv_iconst (pc := 27) (v := 2) d_law_27 rfl ?_
  refine vv_isub (pc := 28) d_law_28 ?_
  refine vv_topi (y := 0) (by decide +kernel) ?_
  refine vv_icmp_gt (pc := 29) (tgt := 524) d_law_29 rfl (fun _ => ?_) (fun hc => absurd (by decide +kernel) hc)
  refine vv_iconst (pc := 524) (v := 1) d_law_524 rfl ?_
  exact vv_zret (pc := 525) d_law_525 rfl rfl
theorem x_D_find_8 {G : cp_G} {h : Nat → cp_E} {z d : Nat} {c : Int32} (hc1 : ¬ c < 65) (hc2 : 90 < c) (hc3 : ¬ c - 65 < 0) (hc4 : 26 ≤ c - 65) (hd : 0 ≤ d) : cp_C G d m_D_find [.ref (cp_b G + 3), .int c] h 86 z (some (.null)) h 86 (z + 0) := by
  refine cp_C.of rfl (Nat.le_of_ble_eq_true rfl) ?_
  refine vv_iload_n (pc := 0) d_D_find_0 rfl ?_
  refine vv_bipush (pc := 1) (v := 65) d_D_find_1 rfl ?_
  refine vv_isub (pc := 3) d_D_find_3 ?_
  refine vv_istore_n (pc := 4) d_D_find_4 (Nat.le_of_ble_eq_true rfl) ?_
  refine vv_iload_n (pc := 5) d_D_find_5 rfl ?_
  refine vv_if_lt (pc := 6) (tgt := 24) d_D_find_6 rfl (fun hc => absurd hc hc3) (fun _ => ?_)
  refine vv_iload_n (pc := 9) d_D_find_9 rfl ?_
  refine vv_bipush (pc := 10) (v := 26) d_D_find_10 rfl ?_
  refine vv_icmp_ge (pc := 12) (tgt := 24) d_D_find_12 rfl (fun _ => ?_) (fun hc => absurd hc4 hc)
  refine vv_null (pc := 24) d_D_find_24 ?_
  exact vv_aret (pc := 25) d_D_find_25 rfl (Or.inl ⟨_, rfl⟩) cp_isr_n
theorem x_P_kind_2 {G : cp_G} {h : Nat → cp_E} {z d : Nat} {g0 g3 : Nat → Value} {c : Int32} (hc1 : ¬ c < 65) (hc2 : 90 < c) (hc3 : ¬ c - 65 < 0) (hc4 : 26 ≤ c - 65) (hd : 1 ≤ d) (H0 : h 0 = .inr (0, g0)) (E0_4 : g0 4 = .ref (cp_b G + 3)) (H3 : h 3 = .inr (1, g3)) : cp_C G d m_P_kind [.ref (cp_b G + 0), .int c] h 86 z (some (.int 0)) h 86 (z + 0) := by
  refine cp_C.of rfl (Nat.le_of_ble_eq_true rfl) ?_
  refine vv_aload_n (pc := 0) d_P_kind_0 rfl ?_
  refine vv_getf (pc := 1) d_P_kind_1 fl_P_26 (by decide) H0 E0_4 ?_
  refine vv_iload_n (pc := 4) d_P_kind_4 rfl ?_
  refine vv_callV (pc := 5) (As := [.int c]) d_P_kind_5 (x_D_find_8 (c := c) hc1 hc2 hc3 hc4 (d := d - 1) (by omega)) k_D_find ml_P_169.1 ml_P_169.2.1 ml_P_169.2.2.1 ml_P_169.2.2.2.1 ml_P_169.2.2.2.2 (by decide) H3 (by omega) (Nat.le_of_ble_eq_true rfl) ?_
  refine vv_astore_n (pc := 8) d_P_kind_8 cp_isr_n (Nat.le_of_ble_eq_true rfl) ?_
  refine vv_aload_nN (pc := 9) d_P_kind_9 rfl ?_
  refine vv_ifnonnullN (pc := 10) d_P_kind_10 ?_
  refine vv_iconst (pc := 13) (v := 0) d_P_kind_13 rfl ?_
  exact vv_iret (pc := 14) d_P_kind_14 rfl
theorem x_M_isLetter_14 {G : cp_G} {h : Nat → cp_E} {z d : Nat} {c : Int32} (hc1 : ¬ c < 65) (hc2 : 90 < c) (hc3 : ¬ c - 65 < 0) (hc4 : 26 ≤ c - 65) (hd : 0 ≤ d) : cp_C G d m_M_isLetter [.int c] h 86 z (some (.int 0)) h 86 (z + 0) := by
  refine cp_C.of rfl (Nat.le_of_ble_eq_true rfl) ?_
  refine vv_iload_n (pc := 0) d_M_isLetter_0 rfl ?_
  refine vv_bipush (pc := 1) (v := 65) d_M_isLetter_1 rfl ?_
  refine vv_icmp_lt (pc := 3) (tgt := 16) d_M_isLetter_3 rfl (fun hc => absurd hc hc1) (fun _ => ?_)
  refine vv_iload_n (pc := 6) d_M_isLetter_6 rfl ?_
  refine vv_bipush (pc := 7) (v := 90) d_M_isLetter_7 rfl ?_
  refine vv_icmp_gt (pc := 9) (tgt := 16) d_M_isLetter_9 rfl (fun _ => ?_) (fun hc => absurd hc2 hc)
  refine vv_iconst (pc := 16) (v := 0) d_M_isLetter_16 rfl ?_
  exact vv_zret (pc := 17) d_M_isLetter_17 rfl rfl
theorem x_M_kind_2 {G : cp_G} {h : Nat → cp_E} {z d : Nat} {g26 : Nat → Value} {c : Int32} (hc1 : ¬ c < 65) (hc2 : 90 < c) (hc3 : ¬ c - 65 < 0) (hc4 : 26 ≤ c - 65) (hd : 1 ≤ d) (H26 : h 26 = .inr (11, g26)) : cp_C G d m_M_kind [.ref (cp_b G + 26), .int c] h 86 z (some (.int 0)) (va_up h 26 (.inr (11, (va_up g26 0 (.int 0))))) 86 (z + 0) := by
  refine cp_C.of rfl (Nat.le_of_ble_eq_true rfl) ?_
  refine vv_aload_n (pc := 0) d_M_kind_0 rfl ?_
  refine vv_iconst (pc := 1) (v := 0) d_M_kind_1 rfl ?_
  refine vv_putf (pc := 2) d_M_kind_2 fl_M_184 (by decide) H26 rfl rfl rfl ?_
  refine vv_iload_n (pc := 5) d_M_kind_5 rfl ?_
  refine vv_callS (pc := 6) (As := [.int c]) d_M_kind_6 (x_M_isLetter_14 (c := c) hc1 hc2 hc3 hc4 (d := d - 1) (by omega)) k_M_isLetter ml_M_215.1 ml_M_215.2 (by omega) (Nat.le_of_ble_eq_true rfl) ?_
  refine vv_if_eq (pc := 9) (tgt := 24) d_M_kind_9 rfl (fun _ => ?_) (fun hc => absurd (by decide +kernel) hc)
  refine vv_iconst (pc := 24) (v := 0) d_M_kind_24 rfl ?_
  exact vv_iret (pc := 25) d_M_kind_25 rfl
theorem p_law_9_hi {G : cp_G} {h : Nat → cp_E} {z d bb : Nat} {xs : Nat → Int32} {g0 g3 g26 : Nat → Value} {c : Int32} (hc1 : ¬ c < 65) (hc2 : 90 < c) (hc3 : ¬ c - 65 < 0) (hc4 : 26 ≤ c - 65) (hS : cp_scr G bb 2 xs) (hcx : ((xs 1).toUInt32 % 65536).toInt32 = c) (hd : 2 ≤ d) (H0 : h 0 = .inr (0, g0)) (E0_4 : g0 4 = .ref (cp_b G + 3)) (H3 : h 3 = .inr (1, g3)) (H26 : h 26 = .inr (11, g26)) : cp_V G m_law d 0 0 (.inl (some (.int 1))) (va_up h 26 (.inr (11, (va_up g26 0 (.int 0))))) 86 (z + 0) 426 [(4, .int 0), (3, .ref (cp_b G + 85)), (2, .ref (cp_b G + 26)), (1, .ref (cp_b G + 0)), (0, .ref bb)] [] h 86 z := by
  refine vv_aload_n (pc := 426) d_law_426 rfl ?_
  refine vv_aload_n (pc := 427) d_law_427 rfl ?_
  refine vv_iload (pc := 428) d_law_428 rfl ?_
  refine vv_iconst (pc := 430) (v := 1) d_law_430 rfl ?_
  refine vv_iadd (pc := 431) d_law_431 ?_
  refine vv_topi (y := 1) (by decide +kernel) ?_
  refine vv_sld (pc := 432) hS d_law_432 (by unfold vp_in; decide +kernel) ?_
  refine vv_topi (y := xs 1) (congrArg xs (by decide +kernel)) ?_
  refine vv_i2c (pc := 433) d_law_433 ?_
  refine vv_topi (y := c) hcx ?_
  refine vv_callV (pc := 434) (As := [.int c]) d_law_434 (x_P_kind_2 (c := c) hc1 hc2 hc3 hc4 (d := d - 1) (by omega) H0 E0_4 H3) k_P_kind ml_L_76.1 ml_L_76.2.1 ml_L_76.2.2.1 ml_L_76.2.2.2.1 ml_L_76.2.2.2.2 (by decide) H0 (by omega) (Nat.le_of_ble_eq_true rfl) ?_
  refine vv_aload_n (pc := 437) d_law_437 rfl ?_
  refine vv_aload_n (pc := 438) d_law_438 rfl ?_
  refine vv_iload (pc := 439) d_law_439 rfl ?_
  refine vv_iconst (pc := 441) (v := 1) d_law_441 rfl ?_
  refine vv_iadd (pc := 442) d_law_442 ?_
  refine vv_topi (y := 1) (by decide +kernel) ?_
  refine vv_sld (pc := 443) hS d_law_443 (by unfold vp_in; decide +kernel) ?_
  refine vv_topi (y := xs 1) (congrArg xs (by decide +kernel)) ?_
  refine vv_i2c (pc := 444) d_law_444 ?_
  refine vv_topi (y := c) hcx ?_
  refine vv_callV (pc := 445) (As := [.int c]) d_law_445 (x_M_kind_2 (c := c) hc1 hc2 hc3 hc4 (d := d - 1) (by omega) H26) k_M_kind ml_L_79.1 ml_L_79.2.1 ml_L_79.2.2.1 ml_L_79.2.2.2.1 ml_L_79.2.2.2.2 (by decide) H26 (by omega) (Nat.le_of_ble_eq_true rfl) ?_
  refine vv_icmp_eq (pc := 448) (tgt := 518) d_law_448 rfl (fun _ => ?_) (fun hc => absurd (by decide +kernel) hc)
  refine vv_iinc (pc := 518) (v := 2) d_law_518 rfl (by decide +kernel) (Nat.le_of_ble_eq_true rfl) ?_
  refine vv_goto (pc := 521) (tgt := 23) d_law_521 rfl ?_
  refine vv_iload (pc := 23) d_law_23 rfl ?_
  refine vv_aload_n (pc := 25) d_law_25 rfl ?_
  refine vv_slen (pc := 26) hS d_law_26 ?_
  refine vv_topi (y := 2) (by decide +kernel) ?_
  refine vv_iconst (pc := 27) (v := 2) d_law_27 rfl ?_
  refine vv_isub (pc := 28) d_law_28 ?_
  refine vv_topi (y := 0) (by decide +kernel) ?_
  refine vv_icmp_gt (pc := 29) (tgt := 524) d_law_29 rfl (fun _ => ?_) (fun hc => absurd (by decide +kernel) hc)
  refine vv_iconst (pc := 524) (v := 1) d_law_524 rfl ?_
  exact vv_zret (pc := 525) d_law_525 rfl rfl
theorem x_D_find_9 {G : cp_G} {h : Nat → cp_E} {z d : Nat} {g3 : Nat → Value} {c : Int32} (hc1 : ¬ c < 65) (hc2 : ¬ 90 < c) (hc3 : ¬ c - 65 < 0) (hc4 : ¬ 26 ≤ c - 65) (hc5 : vp_in (c - 65) 26) (hd : 0 ≤ d) (H3 : h 3 = .inr (1, g3)) (E3_0 : g3 0 = .ref (cp_b G + 4)) (H4 : h 4 = .inl (cp_cE G, 26, .inr (.inr (.inr (.inr (fun _ => none)))))) : cp_C G d m_D_find [.ref (cp_b G + 3), .int c] h 86 z (some (.null)) h 86 (z + 0) := by
  refine cp_C.of rfl (Nat.le_of_ble_eq_true rfl) ?_
  refine vv_iload_n (pc := 0) d_D_find_0 rfl ?_
  refine vv_bipush (pc := 1) (v := 65) d_D_find_1 rfl ?_
  refine vv_isub (pc := 3) d_D_find_3 ?_
  refine vv_istore_n (pc := 4) d_D_find_4 (Nat.le_of_ble_eq_true rfl) ?_
  refine vv_iload_n (pc := 5) d_D_find_5 rfl ?_
  refine vv_if_lt (pc := 6) (tgt := 24) d_D_find_6 rfl (fun hc => absurd hc hc3) (fun _ => ?_)
  refine vv_iload_n (pc := 9) d_D_find_9 rfl ?_
  refine vv_bipush (pc := 10) (v := 26) d_D_find_10 rfl ?_
  refine vv_icmp_ge (pc := 12) (tgt := 24) d_D_find_12 rfl (fun hc => absurd hc hc4) (fun _ => ?_)
  refine vv_aload_n (pc := 15) d_D_find_15 rfl ?_
  refine vv_getf (pc := 16) d_D_find_16 fl_D_11 (by decide) H3 E3_0 ?_
  refine vv_iload_n (pc := 19) d_D_find_19 rfl ?_
  refine vv_aald (pc := 20) d_D_find_20 (by decide) H4 hc5 ?_
  refine vv_topv (y := .null) rfl ?_
  refine vv_goto (pc := 21) (tgt := 25) d_D_find_21 rfl ?_
  exact vv_aret (pc := 25) d_D_find_25 rfl (Or.inl ⟨_, rfl⟩) cp_isr_n
theorem x_P_kind_3 {G : cp_G} {h : Nat → cp_E} {z d : Nat} {g0 g3 : Nat → Value} {c : Int32} (hc1 : ¬ c < 65) (hc2 : ¬ 90 < c) (hc3 : ¬ c - 65 < 0) (hc4 : ¬ 26 ≤ c - 65) (hc5 : vp_in (c - 65) 26) (hd : 1 ≤ d) (H0 : h 0 = .inr (0, g0)) (E0_4 : g0 4 = .ref (cp_b G + 3)) (H3 : h 3 = .inr (1, g3)) (E3_0 : g3 0 = .ref (cp_b G + 4)) (H4 : h 4 = .inl (cp_cE G, 26, .inr (.inr (.inr (.inr (fun _ => none)))))) : cp_C G d m_P_kind [.ref (cp_b G + 0), .int c] h 86 z (some (.int 0)) h 86 (z + 0) := by
  refine cp_C.of rfl (Nat.le_of_ble_eq_true rfl) ?_
  refine vv_aload_n (pc := 0) d_P_kind_0 rfl ?_
  refine vv_getf (pc := 1) d_P_kind_1 fl_P_26 (by decide) H0 E0_4 ?_
  refine vv_iload_n (pc := 4) d_P_kind_4 rfl ?_
  refine vv_callV (pc := 5) (As := [.int c]) d_P_kind_5 (x_D_find_9 (c := c) hc1 hc2 hc3 hc4 hc5 (d := d - 1) (by omega) H3 E3_0 H4) k_D_find ml_P_169.1 ml_P_169.2.1 ml_P_169.2.2.1 ml_P_169.2.2.2.1 ml_P_169.2.2.2.2 (by decide) H3 (by omega) (Nat.le_of_ble_eq_true rfl) ?_
  refine vv_astore_n (pc := 8) d_P_kind_8 cp_isr_n (Nat.le_of_ble_eq_true rfl) ?_
  refine vv_aload_nN (pc := 9) d_P_kind_9 rfl ?_
  refine vv_ifnonnullN (pc := 10) d_P_kind_10 ?_
  refine vv_iconst (pc := 13) (v := 0) d_P_kind_13 rfl ?_
  exact vv_iret (pc := 14) d_P_kind_14 rfl
theorem x_M_isLetter_15 {G : cp_G} {h : Nat → cp_E} {z d : Nat} {c : Int32} (hc1 : ¬ c < 65) (hc2 : ¬ 90 < c) (hc3 : ¬ c - 65 < 0) (hc4 : ¬ 26 ≤ c - 65) (hc5 : vp_in (c - 65) 26) (hd : 0 ≤ d) : cp_C G d m_M_isLetter [.int c] h 86 z (some (.int 1)) h 86 (z + 0) := by
  refine cp_C.of rfl (Nat.le_of_ble_eq_true rfl) ?_
  refine vv_iload_n (pc := 0) d_M_isLetter_0 rfl ?_
  refine vv_bipush (pc := 1) (v := 65) d_M_isLetter_1 rfl ?_
  refine vv_icmp_lt (pc := 3) (tgt := 16) d_M_isLetter_3 rfl (fun hc => absurd hc hc1) (fun _ => ?_)
  refine vv_iload_n (pc := 6) d_M_isLetter_6 rfl ?_
  refine vv_bipush (pc := 7) (v := 90) d_M_isLetter_7 rfl ?_
  refine vv_icmp_gt (pc := 9) (tgt := 16) d_M_isLetter_9 rfl (fun hc => absurd hc hc2) (fun _ => ?_)
  refine vv_iconst (pc := 12) (v := 1) d_M_isLetter_12 rfl ?_
  refine vv_goto (pc := 13) (tgt := 17) d_M_isLetter_13 rfl ?_
  exact vv_zret (pc := 17) d_M_isLetter_17 rfl rfl
theorem x_M_kind_3 {G : cp_G} {h : Nat → cp_E} {z d : Nat} {g26 : Nat → Value} {f30 : Nat → Int32} {c : Int32} (hc1 : ¬ c < 65) (hc2 : ¬ 90 < c) (hc3 : ¬ c - 65 < 0) (hc4 : ¬ 26 ≤ c - 65) (hc5 : vp_in (c - 65) 26) (hd : 1 ≤ d) (H26 : h 26 = .inr (11, g26)) (E26_6 : g26 6 = .ref (cp_b G + 30)) (H30 : h 30 = .inl (cp_cI G, 26, .inl f30)) (Z30 : f30 = fun _ => 0) : cp_C G d m_M_kind [.ref (cp_b G + 26), .int c] h 86 z (some (.int 0)) (va_up h 26 (.inr (11, (va_up g26 0 (.int 0))))) 86 (z + 0) := by
  refine cp_C.of rfl (Nat.le_of_ble_eq_true rfl) ?_
  refine vv_aload_n (pc := 0) d_M_kind_0 rfl ?_
  refine vv_iconst (pc := 1) (v := 0) d_M_kind_1 rfl ?_
  refine vv_putf (pc := 2) d_M_kind_2 fl_M_184 (by decide) H26 rfl rfl rfl ?_
  refine vv_iload_n (pc := 5) d_M_kind_5 rfl ?_
  refine vv_callS (pc := 6) (As := [.int c]) d_M_kind_6 (x_M_isLetter_15 (c := c) hc1 hc2 hc3 hc4 hc5 (d := d - 1) (by omega)) k_M_isLetter ml_M_215.1 ml_M_215.2 (by omega) (Nat.le_of_ble_eq_true rfl) ?_
  refine vv_if_eq (pc := 9) (tgt := 24) d_M_kind_9 rfl (fun hc => absurd hc (by decide +kernel)) (fun _ => ?_)
  refine vv_aload_n (pc := 12) d_M_kind_12 rfl ?_
  refine vv_getf (pc := 13) d_M_kind_13 fl_M_19 (by decide) rfl E26_6 ?_
  refine vv_iload_n (pc := 16) d_M_kind_16 rfl ?_
  refine vv_bipush (pc := 17) (v := 65) d_M_kind_17 rfl ?_
  refine vv_isub (pc := 19) d_M_kind_19 ?_
  refine vv_iald (pc := 20) d_M_kind_20 (by decide) H30 hc5 ?_
  refine vv_topi (y := 0) (congrFun Z30 _) ?_
  refine vv_goto (pc := 21) (tgt := 25) d_M_kind_21 rfl ?_
  exact vv_iret (pc := 25) d_M_kind_25 rfl
theorem p_law_9_le {G : cp_G} {h : Nat → cp_E} {z d bb : Nat} {xs : Nat → Int32} {g0 g3 g26 : Nat → Value} {f30 : Nat → Int32} {c : Int32} (hc1 : ¬ c < 65) (hc2 : ¬ 90 < c) (hc3 : ¬ c - 65 < 0) (hc4 : ¬ 26 ≤ c - 65) (hc5 : vp_in (c - 65) 26) (hS : cp_scr G bb 2 xs) (hcx : ((xs 1).toUInt32 % 65536).toInt32 = c) (hd : 2 ≤ d) (H0 : h 0 = .inr (0, g0)) (E0_4 : g0 4 = .ref (cp_b G + 3)) (H3 : h 3 = .inr (1, g3)) (E3_0 : g3 0 = .ref (cp_b G + 4)) (H4 : h 4 = .inl (cp_cE G, 26, .inr (.inr (.inr (.inr (fun _ => none)))))) (H26 : h 26 = .inr (11, g26)) (E26_6 : g26 6 = .ref (cp_b G + 30)) (H30 : h 30 = .inl (cp_cI G, 26, .inl f30)) (Z30 : f30 = fun _ => 0) : cp_V G m_law d 0 0 (.inl (some (.int 1))) (va_up h 26 (.inr (11, (va_up g26 0 (.int 0))))) 86 (z + 0) 426 [(4, .int 0), (3, .ref (cp_b G + 85)), (2, .ref (cp_b G + 26)), (1, .ref (cp_b G + 0)), (0, .ref bb)] [] h 86 z := by
  refine vv_aload_n (pc := 426) d_law_426 rfl ?_
  refine vv_aload_n (pc := 427) d_law_427 rfl ?_
  refine vv_iload (pc := 428) d_law_428 rfl ?_
  refine vv_iconst (pc := 430) (v := 1) d_law_430 rfl ?_
  refine vv_iadd (pc := 431) d_law_431 ?_
  refine vv_topi (y := 1) (by decide +kernel) ?_
  refine vv_sld (pc := 432) hS d_law_432 (by unfold vp_in; decide +kernel) ?_
  refine vv_topi (y := xs 1) (congrArg xs (by decide +kernel)) ?_
  refine vv_i2c (pc := 433) d_law_433 ?_
  refine vv_topi (y := c) hcx ?_
  refine vv_callV (pc := 434) (As := [.int c]) d_law_434 (x_P_kind_3 (c := c) hc1 hc2 hc3 hc4 hc5 (d := d - 1) (by omega) H0 E0_4 H3 E3_0 H4) k_P_kind ml_L_76.1 ml_L_76.2.1 ml_L_76.2.2.1 ml_L_76.2.2.2.1 ml_L_76.2.2.2.2 (by decide) H0 (by omega) (Nat.le_of_ble_eq_true rfl) ?_
  refine vv_aload_n (pc := 437) d_law_437 rfl ?_
  refine vv_aload_n (pc := 438) d_law_438 rfl ?_
  refine vv_iload (pc := 439) d_law_439 rfl ?_
  refine vv_iconst (pc := 441) (v := 1) d_law_441 rfl ?_
  refine vv_iadd (pc := 442) d_law_442 ?_
  refine vv_topi (y := 1) (by decide +kernel) ?_
  refine vv_sld (pc := 443) hS d_law_443 (by unfold vp_in; decide +kernel) ?_
  refine vv_topi (y := xs 1) (congrArg xs (by decide +kernel)) ?_
  refine vv_i2c (pc := 444) d_law_444 ?_
  refine vv_topi (y := c) hcx ?_
  refine vv_callV (pc := 445) (As := [.int c]) d_law_445 (x_M_kind_3 (c := c) hc1 hc2 hc3 hc4 hc5 (d := d - 1) (by omega) H26 E26_6 H30 Z30) k_M_kind ml_L_79.1 ml_L_79.2.1 ml_L_79.2.2.1 ml_L_79.2.2.2.1 ml_L_79.2.2.2.2 (by decide) H26 (by omega) (Nat.le_of_ble_eq_true rfl) ?_
  refine vv_icmp_eq (pc := 448) (tgt := 518) d_law_448 rfl (fun _ => ?_) (fun hc => absurd (by decide +kernel) hc)
  refine vv_iinc (pc := 518) (v := 2) d_law_518 rfl (by decide +kernel) (Nat.le_of_ble_eq_true rfl) ?_
  refine vv_goto (pc := 521) (tgt := 23) d_law_521 rfl ?_
  refine vv_iload (pc := 23) d_law_23 rfl ?_
  refine vv_aload_n (pc := 25) d_law_25 rfl ?_
  refine vv_slen (pc := 26) hS d_law_26 ?_
  refine vv_topi (y := 2) (by decide +kernel) ?_
  refine vv_iconst (pc := 27) (v := 2) d_law_27 rfl ?_
  refine vv_isub (pc := 28) d_law_28 ?_
  refine vv_topi (y := 0) (by decide +kernel) ?_
  refine vv_icmp_gt (pc := 29) (tgt := 524) d_law_29 rfl (fun _ => ?_) (fun hc => absurd (by decide +kernel) hc)
  refine vv_iconst (pc := 524) (v := 1) d_law_524 rfl ?_
  exact vv_zret (pc := 525) d_law_525 rfl rfl
theorem x_D_find_10 {G : cp_G} {h : Nat → cp_E} {z d : Nat} {c : Int32} (hc1 : c < 65) (hc2 : c - 65 < 0) (hd : 0 ≤ d) : cp_C G d m_D_find [.ref (cp_b G + 3), .int c] h 86 z (some (.null)) h 86 (z + 0) := by
  refine cp_C.of rfl (Nat.le_of_ble_eq_true rfl) ?_
  refine vv_iload_n (pc := 0) d_D_find_0 rfl ?_
  refine vv_bipush (pc := 1) (v := 65) d_D_find_1 rfl ?_
  refine vv_isub (pc := 3) d_D_find_3 ?_
  refine vv_istore_n (pc := 4) d_D_find_4 (Nat.le_of_ble_eq_true rfl) ?_
  refine vv_iload_n (pc := 5) d_D_find_5 rfl ?_
  refine vv_if_lt (pc := 6) (tgt := 24) d_D_find_6 rfl (fun _ => ?_) (fun hc => absurd hc2 hc)
  refine vv_null (pc := 24) d_D_find_24 ?_
  exact vv_aret (pc := 25) d_D_find_25 rfl (Or.inl ⟨_, rfl⟩) cp_isr_n
theorem x_P_parameters {G : cp_G} {h : Nat → cp_E} {z d : Nat} {g0 g3 : Nat → Value} {c : Int32} (hc1 : c < 65) (hc2 : c - 65 < 0) (hd : 1 ≤ d) (H0 : h 0 = .inr (0, g0)) (E0_4 : g0 4 = .ref (cp_b G + 3)) (H3 : h 3 = .inr (1, g3)) : cp_C G d m_P_parameters [.ref (cp_b G + 0), .int c] h 86 z (some (.int (-1))) h 86 (z + 0) := by
  refine cp_C.of rfl (Nat.le_of_ble_eq_true rfl) ?_
  refine vv_aload_n (pc := 0) d_P_parameters_0 rfl ?_
  refine vv_getf (pc := 1) d_P_parameters_1 fl_P_26 (by decide) H0 E0_4 ?_
  refine vv_iload_n (pc := 4) d_P_parameters_4 rfl ?_
  refine vv_callV (pc := 5) (As := [.int c]) d_P_parameters_5 (x_D_find_10 (c := c) hc1 hc2 (d := d - 1) (by omega)) k_D_find ml_P_169.1 ml_P_169.2.1 ml_P_169.2.2.1 ml_P_169.2.2.2.1 ml_P_169.2.2.2.2 (by decide) H3 (by omega) (Nat.le_of_ble_eq_true rfl) ?_
  refine vv_astore_n (pc := 8) d_P_parameters_8 cp_isr_n (Nat.le_of_ble_eq_true rfl) ?_
  refine vv_aload_nN (pc := 9) d_P_parameters_9 rfl ?_
  refine vv_ifnonnullN (pc := 10) d_P_parameters_10 ?_
  refine vv_iconst (pc := 13) (v := (-1)) d_P_parameters_13 rfl ?_
  refine vv_goto (pc := 14) (tgt := 21) d_P_parameters_14 rfl ?_
  exact vv_iret (pc := 21) d_P_parameters_21 rfl
theorem x_M_isLetter_16 {G : cp_G} {h : Nat → cp_E} {z d : Nat} {c : Int32} (hc1 : c < 65) (hc2 : c - 65 < 0) (hd : 0 ≤ d) : cp_C G d m_M_isLetter [.int c] h 86 z (some (.int 0)) h 86 (z + 0) := by
  refine cp_C.of rfl (Nat.le_of_ble_eq_true rfl) ?_
  refine vv_iload_n (pc := 0) d_M_isLetter_0 rfl ?_
  refine vv_bipush (pc := 1) (v := 65) d_M_isLetter_1 rfl ?_
  refine vv_icmp_lt (pc := 3) (tgt := 16) d_M_isLetter_3 rfl (fun _ => ?_) (fun hc => absurd hc1 hc)
  refine vv_iconst (pc := 16) (v := 0) d_M_isLetter_16 rfl ?_
  exact vv_zret (pc := 17) d_M_isLetter_17 rfl rfl
theorem x_M_parameters {G : cp_G} {h : Nat → cp_E} {z d : Nat} {g26 : Nat → Value} {c : Int32} (hc1 : c < 65) (hc2 : c - 65 < 0) (hd : 1 ≤ d) (H26 : h 26 = .inr (11, g26)) : cp_C G d m_M_parameters [.ref (cp_b G + 26), .int c] h 86 z (some (.int (-1))) (va_up h 26 (.inr (11, (va_up g26 0 (.int 0))))) 86 (z + 0) := by
  refine cp_C.of rfl (Nat.le_of_ble_eq_true rfl) ?_
  refine vv_aload_n (pc := 0) d_M_parameters_0 rfl ?_
  refine vv_iconst (pc := 1) (v := 0) d_M_parameters_1 rfl ?_
  refine vv_putf (pc := 2) d_M_parameters_2 fl_M_184 (by decide) H26 rfl rfl rfl ?_
  refine vv_iload_n (pc := 5) d_M_parameters_5 rfl ?_
  refine vv_callS (pc := 6) (As := [.int c]) d_M_parameters_6 (x_M_isLetter_16 (c := c) hc1 hc2 (d := d - 1) (by omega)) k_M_isLetter ml_M_215.1 ml_M_215.2 (by omega) (Nat.le_of_ble_eq_true rfl) ?_
  refine vv_if_eq (pc := 9) (tgt := 24) d_M_parameters_9 rfl (fun _ => ?_) (fun hc => absurd (by decide +kernel) hc)
  refine vv_iconst (pc := 24) (v := (-1)) d_M_parameters_24 rfl ?_
  refine vv_goto (pc := 25) (tgt := 37) d_M_parameters_25 rfl ?_
  exact vv_iret (pc := 37) d_M_parameters_37 rfl
theorem p_law_10_lo {G : cp_G} {h : Nat → cp_E} {z d bb : Nat} {xs : Nat → Int32} {g0 g3 g26 : Nat → Value} {c : Int32} (hc1 : c < 65) (hc2 : c - 65 < 0) (hS : cp_scr G bb 2 xs) (hcx : ((xs 1).toUInt32 % 65536).toInt32 = c) (hd : 2 ≤ d) (H0 : h 0 = .inr (0, g0)) (E0_4 : g0 4 = .ref (cp_b G + 3)) (H3 : h 3 = .inr (1, g3)) (H26 : h 26 = .inr (11, g26)) : cp_V G m_law d 0 0 (.inl (some (.int 1))) (va_up h 26 (.inr (11, (va_up g26 0 (.int 0))))) 86 (z + 0) 453 [(4, .int 0), (3, .ref (cp_b G + 85)), (2, .ref (cp_b G + 26)), (1, .ref (cp_b G + 0)), (0, .ref bb)] [] h 86 z := by
  refine vv_aload_n (pc := 453) d_law_453 rfl ?_
  refine vv_aload_n (pc := 454) d_law_454 rfl ?_
  refine vv_iload (pc := 455) d_law_455 rfl ?_
  refine vv_iconst (pc := 457) (v := 1) d_law_457 rfl ?_
  refine vv_iadd (pc := 458) d_law_458 ?_
  refine vv_topi (y := 1) (by decide +kernel) ?_
  refine vv_sld (pc := 459) hS d_law_459 (by unfold vp_in; decide +kernel) ?_
  refine vv_topi (y := xs 1) (congrArg xs (by decide +kernel)) ?_
  refine vv_i2c (pc := 460) d_law_460 ?_
  refine vv_topi (y := c) hcx ?_
  refine vv_callV (pc := 461) (As := [.int c]) d_law_461 (x_P_parameters (c := c) hc1 hc2 (d := d - 1) (by omega) H0 E0_4 H3) k_P_parameters ml_L_80.1 ml_L_80.2.1 ml_L_80.2.2.1 ml_L_80.2.2.2.1 ml_L_80.2.2.2.2 (by decide) H0 (by omega) (Nat.le_of_ble_eq_true rfl) ?_
  refine vv_aload_n (pc := 464) d_law_464 rfl ?_
  refine vv_aload_n (pc := 465) d_law_465 rfl ?_
  refine vv_iload (pc := 466) d_law_466 rfl ?_
  refine vv_iconst (pc := 468) (v := 1) d_law_468 rfl ?_
  refine vv_iadd (pc := 469) d_law_469 ?_
  refine vv_topi (y := 1) (by decide +kernel) ?_
  refine vv_sld (pc := 470) hS d_law_470 (by unfold vp_in; decide +kernel) ?_
  refine vv_topi (y := xs 1) (congrArg xs (by decide +kernel)) ?_
  refine vv_i2c (pc := 471) d_law_471 ?_
  refine vv_topi (y := c) hcx ?_
  refine vv_callV (pc := 472) (As := [.int c]) d_law_472 (x_M_parameters (c := c) hc1 hc2 (d := d - 1) (by omega) H26) k_M_parameters ml_L_83.1 ml_L_83.2.1 ml_L_83.2.2.1 ml_L_83.2.2.2.1 ml_L_83.2.2.2.2 (by decide) H26 (by omega) (Nat.le_of_ble_eq_true rfl) ?_
  refine vv_icmp_eq (pc := 475) (tgt := 518) d_law_475 rfl (fun _ => ?_) (fun hc => absurd (by decide +kernel) hc)
  refine vv_iinc (pc := 518) (v := 2) d_law_518 rfl (by decide +kernel) (Nat.le_of_ble_eq_true rfl) ?_
  refine vv_goto (pc := 521) (tgt := 23) d_law_521 rfl ?_
  refine vv_iload (pc := 23) d_law_23 rfl ?_
  refine vv_aload_n (pc := 25) d_law_25 rfl ?_
  refine vv_slen (pc := 26) hS d_law_26 ?_
  refine vv_topi (y := 2) (by decide +kernel) ?_
  refine vv_iconst (pc := 27) (v := 2) d_law_27 rfl ?_
  refine vv_isub (pc := 28) d_law_28 ?_
  refine vv_topi (y := 0) (by decide +kernel) ?_
  refine vv_icmp_gt (pc := 29) (tgt := 524) d_law_29 rfl (fun _ => ?_) (fun hc => absurd (by decide +kernel) hc)
  refine vv_iconst (pc := 524) (v := 1) d_law_524 rfl ?_
  exact vv_zret (pc := 525) d_law_525 rfl rfl
theorem x_D_find_11 {G : cp_G} {h : Nat → cp_E} {z d : Nat} {c : Int32} (hc1 : ¬ c < 65) (hc2 : 90 < c) (hc3 : ¬ c - 65 < 0) (hc4 : 26 ≤ c - 65) (hd : 0 ≤ d) : cp_C G d m_D_find [.ref (cp_b G + 3), .int c] h 86 z (some (.null)) h 86 (z + 0) := by
  refine cp_C.of rfl (Nat.le_of_ble_eq_true rfl) ?_
  refine vv_iload_n (pc := 0) d_D_find_0 rfl ?_
  refine vv_bipush (pc := 1) (v := 65) d_D_find_1 rfl ?_
  refine vv_isub (pc := 3) d_D_find_3 ?_
  refine vv_istore_n (pc := 4) d_D_find_4 (Nat.le_of_ble_eq_true rfl) ?_
  refine vv_iload_n (pc := 5) d_D_find_5 rfl ?_
  refine vv_if_lt (pc := 6) (tgt := 24) d_D_find_6 rfl (fun hc => absurd hc hc3) (fun _ => ?_)
  refine vv_iload_n (pc := 9) d_D_find_9 rfl ?_
  refine vv_bipush (pc := 10) (v := 26) d_D_find_10 rfl ?_
  refine vv_icmp_ge (pc := 12) (tgt := 24) d_D_find_12 rfl (fun _ => ?_) (fun hc => absurd hc4 hc)
  refine vv_null (pc := 24) d_D_find_24 ?_
  exact vv_aret (pc := 25) d_D_find_25 rfl (Or.inl ⟨_, rfl⟩) cp_isr_n
theorem x_P_parameters_2 {G : cp_G} {h : Nat → cp_E} {z d : Nat} {g0 g3 : Nat → Value} {c : Int32} (hc1 : ¬ c < 65) (hc2 : 90 < c) (hc3 : ¬ c - 65 < 0) (hc4 : 26 ≤ c - 65) (hd : 1 ≤ d) (H0 : h 0 = .inr (0, g0)) (E0_4 : g0 4 = .ref (cp_b G + 3)) (H3 : h 3 = .inr (1, g3)) : cp_C G d m_P_parameters [.ref (cp_b G + 0), .int c] h 86 z (some (.int (-1))) h 86 (z + 0) := by
  refine cp_C.of rfl (Nat.le_of_ble_eq_true rfl) ?_
  refine vv_aload_n (pc := 0) d_P_parameters_0 rfl ?_
  refine vv_getf (pc := 1) d_P_parameters_1 fl_P_26 (by decide) H0 E0_4 ?_
  refine vv_iload_n (pc := 4) d_P_parameters_4 rfl ?_
  refine vv_callV (pc := 5) (As := [.int c]) d_P_parameters_5 (x_D_find_11 (c := c) hc1 hc2 hc3 hc4 (d := d - 1) (by omega)) k_D_find ml_P_169.1 ml_P_169.2.1 ml_P_169.2.2.1 ml_P_169.2.2.2.1 ml_P_169.2.2.2.2 (by decide) H3 (by omega) (Nat.le_of_ble_eq_true rfl) ?_
  refine vv_astore_n (pc := 8) d_P_parameters_8 cp_isr_n (Nat.le_of_ble_eq_true rfl) ?_
  refine vv_aload_nN (pc := 9) d_P_parameters_9 rfl ?_
  refine vv_ifnonnullN (pc := 10) d_P_parameters_10 ?_
  refine vv_iconst (pc := 13) (v := (-1)) d_P_parameters_13 rfl ?_
  refine vv_goto (pc := 14) (tgt := 21) d_P_parameters_14 rfl ?_
  exact vv_iret (pc := 21) d_P_parameters_21 rfl
theorem x_M_isLetter_17 {G : cp_G} {h : Nat → cp_E} {z d : Nat} {c : Int32} (hc1 : ¬ c < 65) (hc2 : 90 < c) (hc3 : ¬ c - 65 < 0) (hc4 : 26 ≤ c - 65) (hd : 0 ≤ d) : cp_C G d m_M_isLetter [.int c] h 86 z (some (.int 0)) h 86 (z + 0) := by
  refine cp_C.of rfl (Nat.le_of_ble_eq_true rfl) ?_
  refine vv_iload_n (pc := 0) d_M_isLetter_0 rfl ?_
  refine vv_bipush (pc := 1) (v := 65) d_M_isLetter_1 rfl ?_
  refine vv_icmp_lt (pc := 3) (tgt := 16) d_M_isLetter_3 rfl (fun hc => absurd hc hc1) (fun _ => ?_)
  refine vv_iload_n (pc := 6) d_M_isLetter_6 rfl ?_
  refine vv_bipush (pc := 7) (v := 90) d_M_isLetter_7 rfl ?_
  refine vv_icmp_gt (pc := 9) (tgt := 16) d_M_isLetter_9 rfl (fun _ => ?_) (fun hc => absurd hc2 hc)
  refine vv_iconst (pc := 16) (v := 0) d_M_isLetter_16 rfl ?_
  exact vv_zret (pc := 17) d_M_isLetter_17 rfl rfl
theorem x_M_parameters_2 {G : cp_G} {h : Nat → cp_E} {z d : Nat} {g26 : Nat → Value} {c : Int32} (hc1 : ¬ c < 65) (hc2 : 90 < c) (hc3 : ¬ c - 65 < 0) (hc4 : 26 ≤ c - 65) (hd : 1 ≤ d) (H26 : h 26 = .inr (11, g26)) : cp_C G d m_M_parameters [.ref (cp_b G + 26), .int c] h 86 z (some (.int (-1))) (va_up h 26 (.inr (11, (va_up g26 0 (.int 0))))) 86 (z + 0) := by
  refine cp_C.of rfl (Nat.le_of_ble_eq_true rfl) ?_
  refine vv_aload_n (pc := 0) d_M_parameters_0 rfl ?_
  refine vv_iconst (pc := 1) (v := 0) d_M_parameters_1 rfl ?_
  refine vv_putf (pc := 2) d_M_parameters_2 fl_M_184 (by decide) H26 rfl rfl rfl ?_
  refine vv_iload_n (pc := 5) d_M_parameters_5 rfl ?_
  refine vv_callS (pc := 6) (As := [.int c]) d_M_parameters_6 (x_M_isLetter_17 (c := c) hc1 hc2 hc3 hc4 (d := d - 1) (by omega)) k_M_isLetter ml_M_215.1 ml_M_215.2 (by omega) (Nat.le_of_ble_eq_true rfl) ?_
  refine vv_if_eq (pc := 9) (tgt := 24) d_M_parameters_9 rfl (fun _ => ?_) (fun hc => absurd (by decide +kernel) hc)
  refine vv_iconst (pc := 24) (v := (-1)) d_M_parameters_24 rfl ?_
  refine vv_goto (pc := 25) (tgt := 37) d_M_parameters_25 rfl ?_
  exact vv_iret (pc := 37) d_M_parameters_37 rfl
theorem p_law_10_hi {G : cp_G} {h : Nat → cp_E} {z d bb : Nat} {xs : Nat → Int32} {g0 g3 g26 : Nat → Value} {c : Int32} (hc1 : ¬ c < 65) (hc2 : 90 < c) (hc3 : ¬ c - 65 < 0) (hc4 : 26 ≤ c - 65) (hS : cp_scr G bb 2 xs) (hcx : ((xs 1).toUInt32 % 65536).toInt32 = c) (hd : 2 ≤ d) (H0 : h 0 = .inr (0, g0)) (E0_4 : g0 4 = .ref (cp_b G + 3)) (H3 : h 3 = .inr (1, g3)) (H26 : h 26 = .inr (11, g26)) : cp_V G m_law d 0 0 (.inl (some (.int 1))) (va_up h 26 (.inr (11, (va_up g26 0 (.int 0))))) 86 (z + 0) 453 [(4, .int 0), (3, .ref (cp_b G + 85)), (2, .ref (cp_b G + 26)), (1, .ref (cp_b G + 0)), (0, .ref bb)] [] h 86 z := by
  refine vv_aload_n (pc := 453) d_law_453 rfl ?_
  refine vv_aload_n (pc := 454) d_law_454 rfl ?_
  refine vv_iload (pc := 455) d_law_455 rfl ?_
  refine vv_iconst (pc := 457) (v := 1) d_law_457 rfl ?_
  refine vv_iadd (pc := 458) d_law_458 ?_
  refine vv_topi (y := 1) (by decide +kernel) ?_
  refine vv_sld (pc := 459) hS d_law_459 (by unfold vp_in; decide +kernel) ?_
  refine vv_topi (y := xs 1) (congrArg xs (by decide +kernel)) ?_
  refine vv_i2c (pc := 460) d_law_460 ?_
  refine vv_topi (y := c) hcx ?_
  refine vv_callV (pc := 461) (As := [.int c]) d_law_461 (x_P_parameters_2 (c := c) hc1 hc2 hc3 hc4 (d := d - 1) (by omega) H0 E0_4 H3) k_P_parameters ml_L_80.1 ml_L_80.2.1 ml_L_80.2.2.1 ml_L_80.2.2.2.1 ml_L_80.2.2.2.2 (by decide) H0 (by omega) (Nat.le_of_ble_eq_true rfl) ?_
  refine vv_aload_n (pc := 464) d_law_464 rfl ?_
  refine vv_aload_n (pc := 465) d_law_465 rfl ?_
  refine vv_iload (pc := 466) d_law_466 rfl ?_
  refine vv_iconst (pc := 468) (v := 1) d_law_468 rfl ?_
  refine vv_iadd (pc := 469) d_law_469 ?_
  refine vv_topi (y := 1) (by decide +kernel) ?_
  refine vv_sld (pc := 470) hS d_law_470 (by unfold vp_in; decide +kernel) ?_
  refine vv_topi (y := xs 1) (congrArg xs (by decide +kernel)) ?_
  refine vv_i2c (pc := 471) d_law_471 ?_
  refine vv_topi (y := c) hcx ?_
  refine vv_callV (pc := 472) (As := [.int c]) d_law_472 (x_M_parameters_2 (c := c) hc1 hc2 hc3 hc4 (d := d - 1) (by omega) H26) k_M_parameters ml_L_83.1 ml_L_83.2.1 ml_L_83.2.2.1 ml_L_83.2.2.2.1 ml_L_83.2.2.2.2 (by decide) H26 (by omega) (Nat.le_of_ble_eq_true rfl) ?_
  refine vv_icmp_eq (pc := 475) (tgt := 518) d_law_475 rfl (fun _ => ?_) (fun hc => absurd (by decide +kernel) hc)
  refine vv_iinc (pc := 518) (v := 2) d_law_518 rfl (by decide +kernel) (Nat.le_of_ble_eq_true rfl) ?_
  refine vv_goto (pc := 521) (tgt := 23) d_law_521 rfl ?_
  refine vv_iload (pc := 23) d_law_23 rfl ?_
  refine vv_aload_n (pc := 25) d_law_25 rfl ?_
  refine vv_slen (pc := 26) hS d_law_26 ?_
  refine vv_topi (y := 2) (by decide +kernel) ?_
  refine vv_iconst (pc := 27) (v := 2) d_law_27 rfl ?_
  refine vv_isub (pc := 28) d_law_28 ?_
  refine vv_topi (y := 0) (by decide +kernel) ?_
  refine vv_icmp_gt (pc := 29) (tgt := 524) d_law_29 rfl (fun _ => ?_) (fun hc => absurd (by decide +kernel) hc)
  refine vv_iconst (pc := 524) (v := 1) d_law_524 rfl ?_
  exact vv_zret (pc := 525) d_law_525 rfl rfl
theorem x_D_find_12 {G : cp_G} {h : Nat → cp_E} {z d : Nat} {g3 : Nat → Value} {c : Int32} (hc1 : ¬ c < 65) (hc2 : ¬ 90 < c) (hc3 : ¬ c - 65 < 0) (hc4 : ¬ 26 ≤ c - 65) (hc5 : vp_in (c - 65) 26) (hd : 0 ≤ d) (H3 : h 3 = .inr (1, g3)) (E3_0 : g3 0 = .ref (cp_b G + 4)) (H4 : h 4 = .inl (cp_cE G, 26, .inr (.inr (.inr (.inr (fun _ => none)))))) : cp_C G d m_D_find [.ref (cp_b G + 3), .int c] h 86 z (some (.null)) h 86 (z + 0) := by
  refine cp_C.of rfl (Nat.le_of_ble_eq_true rfl) ?_
  refine vv_iload_n (pc := 0) d_D_find_0 rfl ?_
  refine vv_bipush (pc := 1) (v := 65) d_D_find_1 rfl ?_
  refine vv_isub (pc := 3) d_D_find_3 ?_
  refine vv_istore_n (pc := 4) d_D_find_4 (Nat.le_of_ble_eq_true rfl) ?_
  refine vv_iload_n (pc := 5) d_D_find_5 rfl ?_
  refine vv_if_lt (pc := 6) (tgt := 24) d_D_find_6 rfl (fun hc => absurd hc hc3) (fun _ => ?_)
  refine vv_iload_n (pc := 9) d_D_find_9 rfl ?_
  refine vv_bipush (pc := 10) (v := 26) d_D_find_10 rfl ?_
  refine vv_icmp_ge (pc := 12) (tgt := 24) d_D_find_12 rfl (fun hc => absurd hc hc4) (fun _ => ?_)
  refine vv_aload_n (pc := 15) d_D_find_15 rfl ?_
  refine vv_getf (pc := 16) d_D_find_16 fl_D_11 (by decide) H3 E3_0 ?_
  refine vv_iload_n (pc := 19) d_D_find_19 rfl ?_
  refine vv_aald (pc := 20) d_D_find_20 (by decide) H4 hc5 ?_
  refine vv_topv (y := .null) rfl ?_
  refine vv_goto (pc := 21) (tgt := 25) d_D_find_21 rfl ?_
  exact vv_aret (pc := 25) d_D_find_25 rfl (Or.inl ⟨_, rfl⟩) cp_isr_n
theorem x_P_parameters_3 {G : cp_G} {h : Nat → cp_E} {z d : Nat} {g0 g3 : Nat → Value} {c : Int32} (hc1 : ¬ c < 65) (hc2 : ¬ 90 < c) (hc3 : ¬ c - 65 < 0) (hc4 : ¬ 26 ≤ c - 65) (hc5 : vp_in (c - 65) 26) (hd : 1 ≤ d) (H0 : h 0 = .inr (0, g0)) (E0_4 : g0 4 = .ref (cp_b G + 3)) (H3 : h 3 = .inr (1, g3)) (E3_0 : g3 0 = .ref (cp_b G + 4)) (H4 : h 4 = .inl (cp_cE G, 26, .inr (.inr (.inr (.inr (fun _ => none)))))) : cp_C G d m_P_parameters [.ref (cp_b G + 0), .int c] h 86 z (some (.int (-1))) h 86 (z + 0) := by
  refine cp_C.of rfl (Nat.le_of_ble_eq_true rfl) ?_
  refine vv_aload_n (pc := 0) d_P_parameters_0 rfl ?_
  refine vv_getf (pc := 1) d_P_parameters_1 fl_P_26 (by decide) H0 E0_4 ?_
  refine vv_iload_n (pc := 4) d_P_parameters_4 rfl ?_
  refine vv_callV (pc := 5) (As := [.int c]) d_P_parameters_5 (x_D_find_12 (c := c) hc1 hc2 hc3 hc4 hc5 (d := d - 1) (by omega) H3 E3_0 H4) k_D_find ml_P_169.1 ml_P_169.2.1 ml_P_169.2.2.1 ml_P_169.2.2.2.1 ml_P_169.2.2.2.2 (by decide) H3 (by omega) (Nat.le_of_ble_eq_true rfl) ?_
  refine vv_astore_n (pc := 8) d_P_parameters_8 cp_isr_n (Nat.le_of_ble_eq_true rfl) ?_
  refine vv_aload_nN (pc := 9) d_P_parameters_9 rfl ?_
  refine vv_ifnonnullN (pc := 10) d_P_parameters_10 ?_
  refine vv_iconst (pc := 13) (v := (-1)) d_P_parameters_13 rfl ?_
  refine vv_goto (pc := 14) (tgt := 21) d_P_parameters_14 rfl ?_
  exact vv_iret (pc := 21) d_P_parameters_21 rfl
theorem x_M_isLetter_18 {G : cp_G} {h : Nat → cp_E} {z d : Nat} {c : Int32} (hc1 : ¬ c < 65) (hc2 : ¬ 90 < c) (hc3 : ¬ c - 65 < 0) (hc4 : ¬ 26 ≤ c - 65) (hc5 : vp_in (c - 65) 26) (hd : 0 ≤ d) : cp_C G d m_M_isLetter [.int c] h 86 z (some (.int 1)) h 86 (z + 0) := by
  refine cp_C.of rfl (Nat.le_of_ble_eq_true rfl) ?_
  refine vv_iload_n (pc := 0) d_M_isLetter_0 rfl ?_
  refine vv_bipush (pc := 1) (v := 65) d_M_isLetter_1 rfl ?_
  refine vv_icmp_lt (pc := 3) (tgt := 16) d_M_isLetter_3 rfl (fun hc => absurd hc hc1) (fun _ => ?_)
  refine vv_iload_n (pc := 6) d_M_isLetter_6 rfl ?_
  refine vv_bipush (pc := 7) (v := 90) d_M_isLetter_7 rfl ?_
  refine vv_icmp_gt (pc := 9) (tgt := 16) d_M_isLetter_9 rfl (fun hc => absurd hc hc2) (fun _ => ?_)
  refine vv_iconst (pc := 12) (v := 1) d_M_isLetter_12 rfl ?_
  refine vv_goto (pc := 13) (tgt := 17) d_M_isLetter_13 rfl ?_
  exact vv_zret (pc := 17) d_M_isLetter_17 rfl rfl
theorem x_M_parameters_3 {G : cp_G} {h : Nat → cp_E} {z d : Nat} {g26 : Nat → Value} {f30 : Nat → Int32} {c : Int32} (hc1 : ¬ c < 65) (hc2 : ¬ 90 < c) (hc3 : ¬ c - 65 < 0) (hc4 : ¬ 26 ≤ c - 65) (hc5 : vp_in (c - 65) 26) (hd : 1 ≤ d) (H26 : h 26 = .inr (11, g26)) (E26_6 : g26 6 = .ref (cp_b G + 30)) (H30 : h 30 = .inl (cp_cI G, 26, .inl f30)) (Z30 : f30 = fun _ => 0) : cp_C G d m_M_parameters [.ref (cp_b G + 26), .int c] h 86 z (some (.int (-1))) (va_up h 26 (.inr (11, (va_up g26 0 (.int 0))))) 86 (z + 0) := by
  refine cp_C.of rfl (Nat.le_of_ble_eq_true rfl) ?_
  refine vv_aload_n (pc := 0) d_M_parameters_0 rfl ?_
  refine vv_iconst (pc := 1) (v := 0) d_M_parameters_1 rfl ?_
  refine vv_putf (pc := 2) d_M_parameters_2 fl_M_184 (by decide) H26 rfl rfl rfl ?_
  refine vv_iload_n (pc := 5) d_M_parameters_5 rfl ?_
  refine vv_callS (pc := 6) (As := [.int c]) d_M_parameters_6 (x_M_isLetter_18 (c := c) hc1 hc2 hc3 hc4 hc5 (d := d - 1) (by omega)) k_M_isLetter ml_M_215.1 ml_M_215.2 (by omega) (Nat.le_of_ble_eq_true rfl) ?_
  refine vv_if_eq (pc := 9) (tgt := 24) d_M_parameters_9 rfl (fun hc => absurd hc (by decide +kernel)) (fun _ => ?_)
  refine vv_aload_n (pc := 12) d_M_parameters_12 rfl ?_
  refine vv_getf (pc := 13) d_M_parameters_13 fl_M_19 (by decide) rfl E26_6 ?_
  refine vv_iload_n (pc := 16) d_M_parameters_16 rfl ?_
  refine vv_bipush (pc := 17) (v := 65) d_M_parameters_17 rfl ?_
  refine vv_isub (pc := 19) d_M_parameters_19 ?_
  refine vv_iald (pc := 20) d_M_parameters_20 (by decide) H30 hc5 ?_
  refine vv_topi (y := 0) (congrFun Z30 _) ?_
  refine vv_if_ne (pc := 21) (tgt := 28) d_M_parameters_21 rfl (fun hc => absurd (by decide +kernel) hc) (fun _ => ?_)
  refine vv_iconst (pc := 24) (v := (-1)) d_M_parameters_24 rfl ?_
  refine vv_goto (pc := 25) (tgt := 37) d_M_parameters_25 rfl ?_
  exact vv_iret (pc := 37) d_M_parameters_37 rfl
theorem p_law_10_le {G : cp_G} {h : Nat → cp_E} {z d bb : Nat} {xs : Nat → Int32} {g0 g3 g26 : Nat → Value} {f30 : Nat → Int32} {c : Int32} (hc1 : ¬ c < 65) (hc2 : ¬ 90 < c) (hc3 : ¬ c - 65 < 0) (hc4 : ¬ 26 ≤ c - 65) (hc5 : vp_in (c - 65) 26) (hS : cp_scr G bb 2 xs) (hcx : ((xs 1).toUInt32 % 65536).toInt32 = c) (hd : 2 ≤ d) (H0 : h 0 = .inr (0, g0)) (E0_4 : g0 4 = .ref (cp_b G + 3)) (H3 : h 3 = .inr (1, g3)) (E3_0 : g3 0 = .ref (cp_b G + 4)) (H4 : h 4 = .inl (cp_cE G, 26, .inr (.inr (.inr (.inr (fun _ => none)))))) (H26 : h 26 = .inr (11, g26)) (E26_6 : g26 6 = .ref (cp_b G + 30)) (H30 : h 30 = .inl (cp_cI G, 26, .inl f30)) (Z30 : f30 = fun _ => 0) : cp_V G m_law d 0 0 (.inl (some (.int 1))) (va_up h 26 (.inr (11, (va_up g26 0 (.int 0))))) 86 (z + 0) 453 [(4, .int 0), (3, .ref (cp_b G + 85)), (2, .ref (cp_b G + 26)), (1, .ref (cp_b G + 0)), (0, .ref bb)] [] h 86 z := by
  refine vv_aload_n (pc := 453) d_law_453 rfl ?_
  refine vv_aload_n (pc := 454) d_law_454 rfl ?_
  refine vv_iload (pc := 455) d_law_455 rfl ?_
  refine vv_iconst (pc := 457) (v := 1) d_law_457 rfl ?_
  refine vv_iadd (pc := 458) d_law_458 ?_
  refine vv_topi (y := 1) (by decide +kernel) ?_
  refine vv_sld (pc := 459) hS d_law_459 (by unfold vp_in; decide +kernel) ?_
  refine vv_topi (y := xs 1) (congrArg xs (by decide +kernel)) ?_
  refine vv_i2c (pc := 460) d_law_460 ?_
  refine vv_topi (y := c) hcx ?_
  refine vv_callV (pc := 461) (As := [.int c]) d_law_461 (x_P_parameters_3 (c := c) hc1 hc2 hc3 hc4 hc5 (d := d - 1) (by omega) H0 E0_4 H3 E3_0 H4) k_P_parameters ml_L_80.1 ml_L_80.2.1 ml_L_80.2.2.1 ml_L_80.2.2.2.1 ml_L_80.2.2.2.2 (by decide) H0 (by omega) (Nat.le_of_ble_eq_true rfl) ?_
  refine vv_aload_n (pc := 464) d_law_464 rfl ?_
  refine vv_aload_n (pc := 465) d_law_465 rfl ?_
  refine vv_iload (pc := 466) d_law_466 rfl ?_
  refine vv_iconst (pc := 468) (v := 1) d_law_468 rfl ?_
  refine vv_iadd (pc := 469) d_law_469 ?_
  refine vv_topi (y := 1) (by decide +kernel) ?_
  refine vv_sld (pc := 470) hS d_law_470 (by unfold vp_in; decide +kernel) ?_
  refine vv_topi (y := xs 1) (congrArg xs (by decide +kernel)) ?_
  refine vv_i2c (pc := 471) d_law_471 ?_
  refine vv_topi (y := c) hcx ?_
  refine vv_callV (pc := 472) (As := [.int c]) d_law_472 (x_M_parameters_3 (c := c) hc1 hc2 hc3 hc4 hc5 (d := d - 1) (by omega) H26 E26_6 H30 Z30) k_M_parameters ml_L_83.1 ml_L_83.2.1 ml_L_83.2.2.1 ml_L_83.2.2.2.1 ml_L_83.2.2.2.2 (by decide) H26 (by omega) (Nat.le_of_ble_eq_true rfl) ?_
  refine vv_icmp_eq (pc := 475) (tgt := 518) d_law_475 rfl (fun _ => ?_) (fun hc => absurd (by decide +kernel) hc)
  refine vv_iinc (pc := 518) (v := 2) d_law_518 rfl (by decide +kernel) (Nat.le_of_ble_eq_true rfl) ?_
  refine vv_goto (pc := 521) (tgt := 23) d_law_521 rfl ?_
  refine vv_iload (pc := 23) d_law_23 rfl ?_
  refine vv_aload_n (pc := 25) d_law_25 rfl ?_
  refine vv_slen (pc := 26) hS d_law_26 ?_
  refine vv_topi (y := 2) (by decide +kernel) ?_
  refine vv_iconst (pc := 27) (v := 2) d_law_27 rfl ?_
  refine vv_isub (pc := 28) d_law_28 ?_
  refine vv_topi (y := 0) (by decide +kernel) ?_
  refine vv_icmp_gt (pc := 29) (tgt := 524) d_law_29 rfl (fun _ => ?_) (fun hc => absurd (by decide +kernel) hc)
  refine vv_iconst (pc := 524) (v := 1) d_law_524 rfl ?_
  exact vv_zret (pc := 525) d_law_525 rfl rfl
theorem x_P_type {G : cp_G} {h : Nat → cp_E} {z d : Nat} {c : Int32} (hc1 : c < 32) (hd : 0 ≤ d) : cp_C G d m_P_type [.ref (cp_b G + 0), .int c] h 86 z (some (.int 0)) h 86 (z + 0) := by
  refine cp_C.of rfl (Nat.le_of_ble_eq_true rfl) ?_
  refine vv_iload_n (pc := 0) d_P_type_0 rfl ?_
  refine vv_bipush (pc := 1) (v := 32) d_P_type_1 rfl ?_
  refine vv_icmp_lt (pc := 3) (tgt := 21) d_P_type_3 rfl (fun _ => ?_) (fun hc => absurd hc1 hc)
  refine vv_iconst (pc := 21) (v := 0) d_P_type_21 rfl ?_
  exact vv_zret (pc := 22) d_P_type_22 rfl rfl
theorem x_M_type {G : cp_G} {h : Nat → cp_E} {z d : Nat} {g26 : Nat → Value} {c : Int32} (hc1 : c < 32) (hd : 0 ≤ d) (H26 : h 26 = .inr (11, g26)) : cp_C G d m_M_type [.ref (cp_b G + 26), .int c] h 86 z (some (.int 0)) (va_up h 26 (.inr (11, (va_up g26 0 (.int 0))))) 86 (z + 0) := by
  refine cp_C.of rfl (Nat.le_of_ble_eq_true rfl) ?_
  refine vv_aload_n (pc := 0) d_M_type_0 rfl ?_
  refine vv_iconst (pc := 1) (v := 0) d_M_type_1 rfl ?_
  refine vv_putf (pc := 2) d_M_type_2 fl_M_184 (by decide) H26 rfl rfl rfl ?_
  refine vv_iload_n (pc := 5) d_M_type_5 rfl ?_
  refine vv_bipush (pc := 6) (v := 32) d_M_type_6 rfl ?_
  refine vv_icmp_lt (pc := 8) (tgt := 26) d_M_type_8 rfl (fun _ => ?_) (fun hc => absurd hc1 hc)
  refine vv_iconst (pc := 26) (v := 0) d_M_type_26 rfl ?_
  exact vv_zret (pc := 27) d_M_type_27 rfl rfl
theorem p_law_0_lo {G : cp_G} {h : Nat → cp_E} {z d bb : Nat} {xs : Nat → Int32} {g0 g26 : Nat → Value} {c : Int32} (hc1 : c < 32) (hS : cp_scr G bb 2 xs) (hcx : ((xs 1).toUInt32 % 65536).toInt32 = c) (hd : 1 ≤ d) (H0 : h 0 = .inr (0, g0)) (H26 : h 26 = .inr (11, g26)) : cp_V G m_law d 0 0 (.inl (some (.int 1))) (va_up h 26 (.inr (11, (va_up g26 0 (.int 0))))) 86 (z + 0) 104 [(4, .int 0), (3, .ref (cp_b G + 85)), (2, .ref (cp_b G + 26)), (1, .ref (cp_b G + 0)), (0, .ref bb)] [] h 86 z := by
  refine vv_aload_n (pc := 104) d_law_104 rfl ?_
  refine vv_aload_n (pc := 105) d_law_105 rfl ?_
  refine vv_iload (pc := 106) d_law_106 rfl ?_
  refine vv_iconst (pc := 108) (v := 1) d_law_108 rfl ?_
  refine vv_iadd (pc := 109) d_law_109 ?_
  refine vv_topi (y := 1) (by decide +kernel) ?_
  refine vv_sld (pc := 110) hS d_law_110 (by unfold vp_in; decide +kernel) ?_
  refine vv_topi (y := xs 1) (congrArg xs (by decide +kernel)) ?_
  refine vv_i2c (pc := 111) d_law_111 ?_
  refine vv_topi (y := c) hcx ?_
  refine vv_callV (pc := 112) (As := [.int c]) d_law_112 (x_P_type (c := c) hc1 (d := d - 1) (by omega)) k_P_type ml_L_35.1 ml_L_35.2.1 ml_L_35.2.2.1 ml_L_35.2.2.2.1 ml_L_35.2.2.2.2 (by decide) H0 (by omega) (Nat.le_of_ble_eq_true rfl) ?_
  refine vv_aload_n (pc := 115) d_law_115 rfl ?_
  refine vv_aload_n (pc := 116) d_law_116 rfl ?_
  refine vv_iload (pc := 117) d_law_117 rfl ?_
  refine vv_iconst (pc := 119) (v := 1) d_law_119 rfl ?_
  refine vv_iadd (pc := 120) d_law_120 ?_
  refine vv_topi (y := 1) (by decide +kernel) ?_
  refine vv_sld (pc := 121) hS d_law_121 (by unfold vp_in; decide +kernel) ?_
  refine vv_topi (y := xs 1) (congrArg xs (by decide +kernel)) ?_
  refine vv_i2c (pc := 122) d_law_122 ?_
  refine vv_topi (y := c) hcx ?_
  refine vv_callV (pc := 123) (As := [.int c]) d_law_123 (x_M_type (c := c) hc1 (d := d - 1) (by omega) H26) k_M_type ml_L_39.1 ml_L_39.2.1 ml_L_39.2.2.1 ml_L_39.2.2.2.1 ml_L_39.2.2.2.2 (by decide) H26 (by omega) (Nat.le_of_ble_eq_true rfl) ?_
  refine vv_icmp_eq (pc := 126) (tgt := 518) d_law_126 rfl (fun _ => ?_) (fun hc => absurd (by decide +kernel) hc)
  refine vv_iinc (pc := 518) (v := 2) d_law_518 rfl (by decide +kernel) (Nat.le_of_ble_eq_true rfl) ?_
  refine vv_goto (pc := 521) (tgt := 23) d_law_521 rfl ?_
  refine vv_iload (pc := 23) d_law_23 rfl ?_
  refine vv_aload_n (pc := 25) d_law_25 rfl ?_
  refine vv_slen (pc := 26) hS d_law_26 ?_
  refine vv_topi (y := 2) (by decide +kernel) ?_
  refine vv_iconst (pc := 27) (v := 2) d_law_27 rfl ?_
  refine vv_isub (pc := 28) d_law_28 ?_
  refine vv_topi (y := 0) (by decide +kernel) ?_
  refine vv_icmp_gt (pc := 29) (tgt := 524) d_law_29 rfl (fun _ => ?_) (fun hc => absurd (by decide +kernel) hc)
  refine vv_iconst (pc := 524) (v := 1) d_law_524 rfl ?_
  exact vv_zret (pc := 525) d_law_525 rfl rfl
theorem x_P_type_2 {G : cp_G} {h : Nat → cp_E} {z d : Nat} {c : Int32} (hc1 : ¬ c < 32) (hc2 : 126 < c) (hd : 0 ≤ d) : cp_C G d m_P_type [.ref (cp_b G + 0), .int c] h 86 z (some (.int 0)) h 86 (z + 0) := by
  refine cp_C.of rfl (Nat.le_of_ble_eq_true rfl) ?_
  refine vv_iload_n (pc := 0) d_P_type_0 rfl ?_
  refine vv_bipush (pc := 1) (v := 32) d_P_type_1 rfl ?_
  refine vv_icmp_lt (pc := 3) (tgt := 21) d_P_type_3 rfl (fun hc => absurd hc hc1) (fun _ => ?_)
  refine vv_iload_n (pc := 6) d_P_type_6 rfl ?_
  refine vv_bipush (pc := 7) (v := 126) d_P_type_7 rfl ?_
  refine vv_icmp_gt (pc := 9) (tgt := 21) d_P_type_9 rfl (fun _ => ?_) (fun hc => absurd hc2 hc)
  refine vv_iconst (pc := 21) (v := 0) d_P_type_21 rfl ?_
  exact vv_zret (pc := 22) d_P_type_22 rfl rfl
theorem x_M_type_2 {G : cp_G} {h : Nat → cp_E} {z d : Nat} {g26 : Nat → Value} {c : Int32} (hc1 : ¬ c < 32) (hc2 : 126 < c) (hd : 0 ≤ d) (H26 : h 26 = .inr (11, g26)) : cp_C G d m_M_type [.ref (cp_b G + 26), .int c] h 86 z (some (.int 0)) (va_up h 26 (.inr (11, (va_up g26 0 (.int 0))))) 86 (z + 0) := by
  refine cp_C.of rfl (Nat.le_of_ble_eq_true rfl) ?_
  refine vv_aload_n (pc := 0) d_M_type_0 rfl ?_
  refine vv_iconst (pc := 1) (v := 0) d_M_type_1 rfl ?_
  refine vv_putf (pc := 2) d_M_type_2 fl_M_184 (by decide) H26 rfl rfl rfl ?_
  refine vv_iload_n (pc := 5) d_M_type_5 rfl ?_
  refine vv_bipush (pc := 6) (v := 32) d_M_type_6 rfl ?_
  refine vv_icmp_lt (pc := 8) (tgt := 26) d_M_type_8 rfl (fun hc => absurd hc hc1) (fun _ => ?_)
  refine vv_iload_n (pc := 11) d_M_type_11 rfl ?_
  refine vv_bipush (pc := 12) (v := 126) d_M_type_12 rfl ?_
  refine vv_icmp_gt (pc := 14) (tgt := 26) d_M_type_14 rfl (fun _ => ?_) (fun hc => absurd hc2 hc)
  refine vv_iconst (pc := 26) (v := 0) d_M_type_26 rfl ?_
  exact vv_zret (pc := 27) d_M_type_27 rfl rfl
theorem p_law_0_hi {G : cp_G} {h : Nat → cp_E} {z d bb : Nat} {xs : Nat → Int32} {g0 g26 : Nat → Value} {c : Int32} (hc1 : ¬ c < 32) (hc2 : 126 < c) (hS : cp_scr G bb 2 xs) (hcx : ((xs 1).toUInt32 % 65536).toInt32 = c) (hd : 1 ≤ d) (H0 : h 0 = .inr (0, g0)) (H26 : h 26 = .inr (11, g26)) : cp_V G m_law d 0 0 (.inl (some (.int 1))) (va_up h 26 (.inr (11, (va_up g26 0 (.int 0))))) 86 (z + 0) 104 [(4, .int 0), (3, .ref (cp_b G + 85)), (2, .ref (cp_b G + 26)), (1, .ref (cp_b G + 0)), (0, .ref bb)] [] h 86 z := by
  refine vv_aload_n (pc := 104) d_law_104 rfl ?_
  refine vv_aload_n (pc := 105) d_law_105 rfl ?_
  refine vv_iload (pc := 106) d_law_106 rfl ?_
  refine vv_iconst (pc := 108) (v := 1) d_law_108 rfl ?_
  refine vv_iadd (pc := 109) d_law_109 ?_
  refine vv_topi (y := 1) (by decide +kernel) ?_
  refine vv_sld (pc := 110) hS d_law_110 (by unfold vp_in; decide +kernel) ?_
  refine vv_topi (y := xs 1) (congrArg xs (by decide +kernel)) ?_
  refine vv_i2c (pc := 111) d_law_111 ?_
  refine vv_topi (y := c) hcx ?_
  refine vv_callV (pc := 112) (As := [.int c]) d_law_112 (x_P_type_2 (c := c) hc1 hc2 (d := d - 1) (by omega)) k_P_type ml_L_35.1 ml_L_35.2.1 ml_L_35.2.2.1 ml_L_35.2.2.2.1 ml_L_35.2.2.2.2 (by decide) H0 (by omega) (Nat.le_of_ble_eq_true rfl) ?_
  refine vv_aload_n (pc := 115) d_law_115 rfl ?_
  refine vv_aload_n (pc := 116) d_law_116 rfl ?_
  refine vv_iload (pc := 117) d_law_117 rfl ?_
  refine vv_iconst (pc := 119) (v := 1) d_law_119 rfl ?_
  refine vv_iadd (pc := 120) d_law_120 ?_
  refine vv_topi (y := 1) (by decide +kernel) ?_
  refine vv_sld (pc := 121) hS d_law_121 (by unfold vp_in; decide +kernel) ?_
  refine vv_topi (y := xs 1) (congrArg xs (by decide +kernel)) ?_
  refine vv_i2c (pc := 122) d_law_122 ?_
  refine vv_topi (y := c) hcx ?_
  refine vv_callV (pc := 123) (As := [.int c]) d_law_123 (x_M_type_2 (c := c) hc1 hc2 (d := d - 1) (by omega) H26) k_M_type ml_L_39.1 ml_L_39.2.1 ml_L_39.2.2.1 ml_L_39.2.2.2.1 ml_L_39.2.2.2.2 (by decide) H26 (by omega) (Nat.le_of_ble_eq_true rfl) ?_
  refine vv_icmp_eq (pc := 126) (tgt := 518) d_law_126 rfl (fun _ => ?_) (fun hc => absurd (by decide +kernel) hc)
  refine vv_iinc (pc := 518) (v := 2) d_law_518 rfl (by decide +kernel) (Nat.le_of_ble_eq_true rfl) ?_
  refine vv_goto (pc := 521) (tgt := 23) d_law_521 rfl ?_
  refine vv_iload (pc := 23) d_law_23 rfl ?_
  refine vv_aload_n (pc := 25) d_law_25 rfl ?_
  refine vv_slen (pc := 26) hS d_law_26 ?_
  refine vv_topi (y := 2) (by decide +kernel) ?_
  refine vv_iconst (pc := 27) (v := 2) d_law_27 rfl ?_
  refine vv_isub (pc := 28) d_law_28 ?_
  refine vv_topi (y := 0) (by decide +kernel) ?_
  refine vv_icmp_gt (pc := 29) (tgt := 524) d_law_29 rfl (fun _ => ?_) (fun hc => absurd (by decide +kernel) hc)
  refine vv_iconst (pc := 524) (v := 1) d_law_524 rfl ?_
  exact vv_zret (pc := 525) d_law_525 rfl rfl
theorem x_P_type_3 {G : cp_G} {h : Nat → cp_E} {z d : Nat} {g0 : Nat → Value} {f1 : Nat → Int32} {c : Int32} (hc1 : ¬ c < 32) (hc2 : ¬ 126 < c) (hd : 0 ≤ d) (H0 : h 0 = .inr (0, g0)) (E0_1 : g0 1 = .int 0) (E0_0 : g0 0 = .ref (cp_b G + 1)) (H1 : h 1 = .inl (cp_cC G, 80, .inl f1)) : cp_C G d m_P_type [.ref (cp_b G + 0), .int c] h 86 z (some (.int 1)) (va_up (va_up h 1 (.inl (cp_cC G, 80, .inl (upd f1 0 (vp_nar .char c))))) 0 (.inr (0, (va_up g0 1 (.int 1))))) 86 (z + 0) := by
  refine cp_C.of rfl (Nat.le_of_ble_eq_true rfl) ?_
  refine vv_iload_n (pc := 0) d_P_type_0 rfl ?_
  refine vv_bipush (pc := 1) (v := 32) d_P_type_1 rfl ?_
  refine vv_icmp_lt (pc := 3) (tgt := 21) d_P_type_3 rfl (fun hc => absurd hc hc1) (fun _ => ?_)
  refine vv_iload_n (pc := 6) d_P_type_6 rfl ?_
  refine vv_bipush (pc := 7) (v := 126) d_P_type_7 rfl ?_
  refine vv_icmp_gt (pc := 9) (tgt := 21) d_P_type_9 rfl (fun hc => absurd hc hc2) (fun _ => ?_)
  refine vv_aload_n (pc := 12) d_P_type_12 rfl ?_
  refine vv_getf (pc := 13) d_P_type_13 fl_P_13 (by decide) H0 E0_1 ?_
  refine vv_bipush (pc := 16) (v := 80) d_P_type_16 rfl ?_
  refine vv_icmp_lt (pc := 18) (tgt := 23) d_P_type_18 rfl (fun _ => ?_) (fun hc => absurd (by decide +kernel) hc)
  refine vv_aload_n (pc := 23) d_P_type_23 rfl ?_
  refine vv_getf (pc := 24) d_P_type_24 fl_P_9 (by decide) H0 E0_0 ?_
  refine vv_aload_n (pc := 27) d_P_type_27 rfl ?_
  refine vv_getf (pc := 28) d_P_type_28 fl_P_13 (by decide) H0 E0_1 ?_
  refine vv_iload_n (pc := 31) d_P_type_31 rfl ?_
  refine vv_casN (pc := 32) (j := 0) d_P_type_32 (by decide) H1 (by decide) (by decide) ?_
  refine vv_aload_n (pc := 33) d_P_type_33 rfl ?_
  refine vv_dup (pc := 34) d_P_type_34 rfl ?_
  refine vv_getf (pc := 35) d_P_type_35 fl_P_13 (by decide) H0 E0_1 ?_
  refine vv_iconst (pc := 38) (v := 1) d_P_type_38 rfl ?_
  refine vv_iadd (pc := 39) d_P_type_39 ?_
  refine vv_topi (y := 1) (by decide +kernel) ?_
  refine vv_putf (pc := 40) d_P_type_40 fl_P_13 (by decide) H0 rfl rfl rfl ?_
  refine vv_iconst (pc := 43) (v := 1) d_P_type_43 rfl ?_
  exact vv_zret (pc := 44) d_P_type_44 rfl rfl
theorem x_M_type_3 {G : cp_G} {h : Nat → cp_E} {z d : Nat} {g26 : Nat → Value} {f27 : Nat → Int32} {c : Int32} (hc1 : ¬ c < 32) (hc2 : ¬ 126 < c) (hd : 0 ≤ d) (H26 : h 26 = .inr (11, g26)) (E26_1 : g26 1 = .int 0) (E26_2 : g26 2 = .ref (cp_b G + 27)) (H27 : h 27 = .inl (cp_cI G, 80, .inl f27)) : cp_C G d m_M_type [.ref (cp_b G + 26), .int c] h 86 z (some (.int 1)) (va_up (va_up (va_up h 26 (.inr (11, (va_up g26 0 (.int 0))))) 27 (.inl (cp_cI G, 80, .inl (upd f27 0 c)))) 26 (.inr (11, (va_up (va_up g26 0 (.int 0)) 1 (.int 1))))) 86 (z + 0) := by
  refine cp_C.of rfl (Nat.le_of_ble_eq_true rfl) ?_
  refine vv_aload_n (pc := 0) d_M_type_0 rfl ?_
  refine vv_iconst (pc := 1) (v := 0) d_M_type_1 rfl ?_
  refine vv_putf (pc := 2) d_M_type_2 fl_M_184 (by decide) H26 rfl rfl rfl ?_
  refine vv_iload_n (pc := 5) d_M_type_5 rfl ?_
  refine vv_bipush (pc := 6) (v := 32) d_M_type_6 rfl ?_
  refine vv_icmp_lt (pc := 8) (tgt := 26) d_M_type_8 rfl (fun hc => absurd hc hc1) (fun _ => ?_)
  refine vv_iload_n (pc := 11) d_M_type_11 rfl ?_
  refine vv_bipush (pc := 12) (v := 126) d_M_type_12 rfl ?_
  refine vv_icmp_gt (pc := 14) (tgt := 26) d_M_type_14 rfl (fun hc => absurd hc hc2) (fun _ => ?_)
  refine vv_aload_n (pc := 17) d_M_type_17 rfl ?_
  refine vv_getf (pc := 18) d_M_type_18 fl_M_188 (by decide) rfl E26_1 ?_
  refine vv_bipush (pc := 21) (v := 80) d_M_type_21 rfl ?_
  refine vv_icmp_ne (pc := 23) (tgt := 28) d_M_type_23 rfl (fun _ => ?_) (fun hc => absurd hc (by decide +kernel))
  refine vv_aload_n (pc := 28) d_M_type_28 rfl ?_
  refine vv_getf (pc := 29) d_M_type_29 fl_M_7 (by decide) rfl E26_2 ?_
  refine vv_aload_n (pc := 32) d_M_type_32 rfl ?_
  refine vv_getf (pc := 33) d_M_type_33 fl_M_188 (by decide) rfl E26_1 ?_
  refine vv_iload_n (pc := 36) d_M_type_36 rfl ?_
  refine vv_iasN (pc := 37) (j := 0) d_M_type_37 (by decide) H27 (by decide) (by decide) ?_
  refine vv_aload_n (pc := 38) d_M_type_38 rfl ?_
  refine vv_dup (pc := 39) d_M_type_39 rfl ?_
  refine vv_getf (pc := 40) d_M_type_40 fl_M_188 (by decide) rfl E26_1 ?_
  refine vv_iconst (pc := 43) (v := 1) d_M_type_43 rfl ?_
  refine vv_iadd (pc := 44) d_M_type_44 ?_
  refine vv_topi (y := 1) (by decide +kernel) ?_
  refine vv_putf (pc := 45) d_M_type_45 fl_M_188 (by decide) rfl rfl rfl rfl ?_
  refine vv_iconst (pc := 48) (v := 1) d_M_type_48 rfl ?_
  exact vv_zret (pc := 49) d_M_type_49 rfl rfl
theorem p_law_0_ok {G : cp_G} {h : Nat → cp_E} {z d bb : Nat} {xs : Nat → Int32} {g0 g26 : Nat → Value} {f1 f27 : Nat → Int32} {c : Int32} (hc1 : ¬ c < 32) (hc2 : ¬ 126 < c) (hS : cp_scr G bb 2 xs) (hcx : ((xs 1).toUInt32 % 65536).toInt32 = c) (hd : 1 ≤ d) (H0 : h 0 = .inr (0, g0)) (E0_1 : g0 1 = .int 0) (E0_0 : g0 0 = .ref (cp_b G + 1)) (H1 : h 1 = .inl (cp_cC G, 80, .inl f1)) (H26 : h 26 = .inr (11, g26)) (E26_1 : g26 1 = .int 0) (E26_2 : g26 2 = .ref (cp_b G + 27)) (H27 : h 27 = .inl (cp_cI G, 80, .inl f27)) : cp_V G m_law d 0 0 (.inl (some (.int 1))) (va_up (va_up (va_up (va_up (va_up h 1 (.inl (cp_cC G, 80, .inl (upd f1 0 (vp_nar .char c))))) 0 (.inr (0, (va_up g0 1 (.int 1))))) 26 (.inr (11, (va_up g26 0 (.int 0))))) 27 (.inl (cp_cI G, 80, .inl (upd f27 0 c)))) 26 (.inr (11, (va_up (va_up g26 0 (.int 0)) 1 (.int 1))))) 86 (z + 0) 104 [(4, .int 0), (3, .ref (cp_b G + 85)), (2, .ref (cp_b G + 26)), (1, .ref (cp_b G + 0)), (0, .ref bb)] [] h 86 z := by
  refine vv_aload_n (pc := 104) d_law_104 rfl ?_
  refine vv_aload_n (pc := 105) d_law_105 rfl ?_
  refine vv_iload (pc := 106) d_law_106 rfl ?_
  refine vv_iconst (pc := 108) (v := 1) d_law_108 rfl ?_
  refine vv_iadd (pc := 109) d_law_109 ?_
  refine vv_topi (y := 1) (by decide +kernel) ?_
  refine vv_sld (pc := 110) hS d_law_110 (by unfold vp_in; decide +kernel) ?_
  refine vv_topi (y := xs 1) (congrArg xs (by decide +kernel)) ?_
  refine vv_i2c (pc := 111) d_law_111 ?_
  refine vv_topi (y := c) hcx ?_
  refine vv_callV (pc := 112) (As := [.int c]) d_law_112 (x_P_type_3 (c := c) hc1 hc2 (d := d - 1) (by omega) H0 E0_1 E0_0 H1) k_P_type ml_L_35.1 ml_L_35.2.1 ml_L_35.2.2.1 ml_L_35.2.2.2.1 ml_L_35.2.2.2.2 (by decide) H0 (by omega) (Nat.le_of_ble_eq_true rfl) ?_
  refine vv_aload_n (pc := 115) d_law_115 rfl ?_
  refine vv_aload_n (pc := 116) d_law_116 rfl ?_
  refine vv_iload (pc := 117) d_law_117 rfl ?_
  refine vv_iconst (pc := 119) (v := 1) d_law_119 rfl ?_
  refine vv_iadd (pc := 120) d_law_120 ?_
  refine vv_topi (y := 1) (by decide +kernel) ?_
  refine vv_sld (pc := 121) hS d_law_121 (by unfold vp_in; decide +kernel) ?_
  refine vv_topi (y := xs 1) (congrArg xs (by decide +kernel)) ?_
  refine vv_i2c (pc := 122) d_law_122 ?_
  refine vv_topi (y := c) hcx ?_
  refine vv_callV (pc := 123) (As := [.int c]) d_law_123 (x_M_type_3 (c := c) hc1 hc2 (d := d - 1) (by omega) H26 E26_1 E26_2 H27) k_M_type ml_L_39.1 ml_L_39.2.1 ml_L_39.2.2.1 ml_L_39.2.2.2.1 ml_L_39.2.2.2.2 (by decide) H26 (by omega) (Nat.le_of_ble_eq_true rfl) ?_
  refine vv_icmp_eq (pc := 126) (tgt := 518) d_law_126 rfl (fun _ => ?_) (fun hc => absurd (by decide +kernel) hc)
  refine vv_iinc (pc := 518) (v := 2) d_law_518 rfl (by decide +kernel) (Nat.le_of_ble_eq_true rfl) ?_
  refine vv_goto (pc := 521) (tgt := 23) d_law_521 rfl ?_
  refine vv_iload (pc := 23) d_law_23 rfl ?_
  refine vv_aload_n (pc := 25) d_law_25 rfl ?_
  refine vv_slen (pc := 26) hS d_law_26 ?_
  refine vv_topi (y := 2) (by decide +kernel) ?_
  refine vv_iconst (pc := 27) (v := 2) d_law_27 rfl ?_
  refine vv_isub (pc := 28) d_law_28 ?_
  refine vv_topi (y := 0) (by decide +kernel) ?_
  refine vv_icmp_gt (pc := 29) (tgt := 524) d_law_29 rfl (fun _ => ?_) (fun hc => absurd (by decide +kernel) hc)
  refine vv_iconst (pc := 524) (v := 1) d_law_524 rfl ?_
  exact vv_zret (pc := 525) d_law_525 rfl rfl
theorem x_P_charAt {G : cp_G} {h : Nat → cp_E} {z d : Nat} {c : Int32} (hc1 : c < 0) (hd : 0 ≤ d) : cp_C G d m_P_charAt [.ref (cp_b G + 0), .int c] h 86 z (some (.int 32)) h 86 (z + 0) := by
  refine cp_C.of rfl (Nat.le_of_ble_eq_true rfl) ?_
  refine vv_iload_n (pc := 0) d_P_charAt_0 rfl ?_
  refine vv_if_lt (pc := 1) (tgt := 21) d_P_charAt_1 rfl (fun _ => ?_) (fun hc => absurd hc1 hc)
  refine vv_bipush (pc := 21) (v := 32) d_P_charAt_21 rfl ?_
  exact vv_zret (pc := 23) d_P_charAt_23 rfl rfl
theorem x_M_charAt {G : cp_G} {h : Nat → cp_E} {z d : Nat} {g26 : Nat → Value} {c : Int32} (hc1 : c < 0) (hd : 0 ≤ d) (H26 : h 26 = .inr (11, g26)) : cp_C G d m_M_charAt [.ref (cp_b G + 26), .int c] h 86 z (some (.int 32)) (va_up h 26 (.inr (11, (va_up g26 0 (.int 0))))) 86 (z + 0) := by
  refine cp_C.of rfl (Nat.le_of_ble_eq_true rfl) ?_
  refine vv_aload_n (pc := 0) d_M_charAt_0 rfl ?_
  refine vv_iconst (pc := 1) (v := 0) d_M_charAt_1 rfl ?_
  refine vv_putf (pc := 2) d_M_charAt_2 fl_M_184 (by decide) H26 rfl rfl rfl ?_
  refine vv_iload_n (pc := 5) d_M_charAt_5 rfl ?_
  refine vv_if_lt (pc := 6) (tgt := 17) d_M_charAt_6 rfl (fun _ => ?_) (fun hc => absurd hc1 hc)
  refine vv_bipush (pc := 17) (v := 32) d_M_charAt_17 rfl ?_
  refine vv_goto (pc := 19) (tgt := 29) d_M_charAt_19 rfl ?_
  exact vv_zret (pc := 29) d_M_charAt_29 rfl rfl
theorem p_law_12_lo {G : cp_G} {h : Nat → cp_E} {z d bb : Nat} {xs : Nat → Int32} {g0 g26 : Nat → Value} {c : Int32} (hc1 : c < 0) (hS : cp_scr G bb 2 xs) (hcp : xs 1 = c) (hd : 1 ≤ d) (H0 : h 0 = .inr (0, g0)) (H26 : h 26 = .inr (11, g26)) : cp_V G m_law d 0 0 (.inl (some (.int 1))) (va_up h 26 (.inr (11, (va_up g26 0 (.int 0))))) 86 (z + 0) 493 [(4, .int 0), (3, .ref (cp_b G + 85)), (2, .ref (cp_b G + 26)), (1, .ref (cp_b G + 0)), (0, .ref bb)] [] h 86 z := by
  refine vv_aload_n (pc := 493) d_law_493 rfl ?_
  refine vv_aload_n (pc := 494) d_law_494 rfl ?_
  refine vv_iload (pc := 495) d_law_495 rfl ?_
  refine vv_iconst (pc := 497) (v := 1) d_law_497 rfl ?_
  refine vv_iadd (pc := 498) d_law_498 ?_
  refine vv_topi (y := 1) (by decide +kernel) ?_
  refine vv_sld (pc := 499) hS d_law_499 (by unfold vp_in; decide +kernel) ?_
  refine vv_topi (y := xs 1) (congrArg xs (by decide +kernel)) ?_
  refine vv_topi (y := c) hcp ?_
  refine vv_callV (pc := 500) (As := [.int c]) d_law_500 (x_P_charAt (c := c) hc1 (d := d - 1) (by omega)) k_P_charAt ml_L_88.1 ml_L_88.2.1 ml_L_88.2.2.1 ml_L_88.2.2.2.1 ml_L_88.2.2.2.2 (by decide) H0 (by omega) (Nat.le_of_ble_eq_true rfl) ?_
  refine vv_aload_n (pc := 503) d_law_503 rfl ?_
  refine vv_aload_n (pc := 504) d_law_504 rfl ?_
  refine vv_iload (pc := 505) d_law_505 rfl ?_
  refine vv_iconst (pc := 507) (v := 1) d_law_507 rfl ?_
  refine vv_iadd (pc := 508) d_law_508 ?_
  refine vv_topi (y := 1) (by decide +kernel) ?_
  refine vv_sld (pc := 509) hS d_law_509 (by unfold vp_in; decide +kernel) ?_
  refine vv_topi (y := xs 1) (congrArg xs (by decide +kernel)) ?_
  refine vv_topi (y := c) hcp ?_
  refine vv_callV (pc := 510) (As := [.int c]) d_law_510 (x_M_charAt (c := c) hc1 (d := d - 1) (by omega) H26) k_M_charAt ml_L_92.1 ml_L_92.2.1 ml_L_92.2.2.1 ml_L_92.2.2.2.1 ml_L_92.2.2.2.2 (by decide) H26 (by omega) (Nat.le_of_ble_eq_true rfl) ?_
  refine vv_icmp_eq (pc := 513) (tgt := 518) d_law_513 rfl (fun _ => ?_) (fun hc => absurd (by decide +kernel) hc)
  refine vv_iinc (pc := 518) (v := 2) d_law_518 rfl (by decide +kernel) (Nat.le_of_ble_eq_true rfl) ?_
  refine vv_goto (pc := 521) (tgt := 23) d_law_521 rfl ?_
  refine vv_iload (pc := 23) d_law_23 rfl ?_
  refine vv_aload_n (pc := 25) d_law_25 rfl ?_
  refine vv_slen (pc := 26) hS d_law_26 ?_
  refine vv_topi (y := 2) (by decide +kernel) ?_
  refine vv_iconst (pc := 27) (v := 2) d_law_27 rfl ?_
  refine vv_isub (pc := 28) d_law_28 ?_
  refine vv_topi (y := 0) (by decide +kernel) ?_
  refine vv_icmp_gt (pc := 29) (tgt := 524) d_law_29 rfl (fun _ => ?_) (fun hc => absurd (by decide +kernel) hc)
  refine vv_iconst (pc := 524) (v := 1) d_law_524 rfl ?_
  exact vv_zret (pc := 525) d_law_525 rfl rfl
theorem x_P_charAt_2 {G : cp_G} {h : Nat → cp_E} {z d : Nat} {g0 : Nat → Value} {c : Int32} (hc1 : ¬ c < 0) (hc2 : 0 ≤ c) (hd : 0 ≤ d) (H0 : h 0 = .inr (0, g0)) (E0_3 : g0 3 = .int 0) : cp_C G d m_P_charAt [.ref (cp_b G + 0), .int c] h 86 z (some (.int 32)) h 86 (z + 0) := by
  refine cp_C.of rfl (Nat.le_of_ble_eq_true rfl) ?_
  refine vv_iload_n (pc := 0) d_P_charAt_0 rfl ?_
  refine vv_if_lt (pc := 1) (tgt := 21) d_P_charAt_1 rfl (fun hc => absurd hc hc1) (fun _ => ?_)
  refine vv_iload_n (pc := 4) d_P_charAt_4 rfl ?_
  refine vv_aload_n (pc := 5) d_P_charAt_5 rfl ?_
  refine vv_getf (pc := 6) d_P_charAt_6 fl_P_20 (by decide) H0 E0_3 ?_
  refine vv_icmp_ge (pc := 9) (tgt := 21) d_P_charAt_9 rfl (fun _ => ?_) (fun hc => absurd hc2 hc)
  refine vv_bipush (pc := 21) (v := 32) d_P_charAt_21 rfl ?_
  exact vv_zret (pc := 23) d_P_charAt_23 rfl rfl
theorem x_M_charAt_2 {G : cp_G} {h : Nat → cp_E} {z d : Nat} {g26 : Nat → Value} {c : Int32} (hc1 : ¬ c < 0) (hc2 : 0 ≤ c) (hd : 0 ≤ d) (H26 : h 26 = .inr (11, g26)) (E26_3 : g26 3 = .int 0) : cp_C G d m_M_charAt [.ref (cp_b G + 26), .int c] h 86 z (some (.int 32)) (va_up h 26 (.inr (11, (va_up g26 0 (.int 0))))) 86 (z + 0) := by
  refine cp_C.of rfl (Nat.le_of_ble_eq_true rfl) ?_
  refine vv_aload_n (pc := 0) d_M_charAt_0 rfl ?_
  refine vv_iconst (pc := 1) (v := 0) d_M_charAt_1 rfl ?_
  refine vv_putf (pc := 2) d_M_charAt_2 fl_M_184 (by decide) H26 rfl rfl rfl ?_
  refine vv_iload_n (pc := 5) d_M_charAt_5 rfl ?_
  refine vv_if_lt (pc := 6) (tgt := 17) d_M_charAt_6 rfl (fun hc => absurd hc hc1) (fun _ => ?_)
  refine vv_iload_n (pc := 9) d_M_charAt_9 rfl ?_
  refine vv_aload_n (pc := 10) d_M_charAt_10 rfl ?_
  refine vv_getf (pc := 11) d_M_charAt_11 fl_M_314 (by decide) rfl E26_3 ?_
  refine vv_icmp_lt (pc := 14) (tgt := 22) d_M_charAt_14 rfl (fun hc => absurd hc hc1) (fun _ => ?_)
  refine vv_bipush (pc := 17) (v := 32) d_M_charAt_17 rfl ?_
  refine vv_goto (pc := 19) (tgt := 29) d_M_charAt_19 rfl ?_
  exact vv_zret (pc := 29) d_M_charAt_29 rfl rfl
theorem p_law_12_ge {G : cp_G} {h : Nat → cp_E} {z d bb : Nat} {xs : Nat → Int32} {g0 g26 : Nat → Value} {c : Int32} (hc1 : ¬ c < 0) (hc2 : 0 ≤ c) (hS : cp_scr G bb 2 xs) (hcp : xs 1 = c) (hd : 1 ≤ d) (H0 : h 0 = .inr (0, g0)) (E0_3 : g0 3 = .int 0) (H26 : h 26 = .inr (11, g26)) (E26_3 : g26 3 = .int 0) : cp_V G m_law d 0 0 (.inl (some (.int 1))) (va_up h 26 (.inr (11, (va_up g26 0 (.int 0))))) 86 (z + 0) 493 [(4, .int 0), (3, .ref (cp_b G + 85)), (2, .ref (cp_b G + 26)), (1, .ref (cp_b G + 0)), (0, .ref bb)] [] h 86 z := by
  refine vv_aload_n (pc := 493) d_law_493 rfl ?_
  refine vv_aload_n (pc := 494) d_law_494 rfl ?_
  refine vv_iload (pc := 495) d_law_495 rfl ?_
  refine vv_iconst (pc := 497) (v := 1) d_law_497 rfl ?_
  refine vv_iadd (pc := 498) d_law_498 ?_
  refine vv_topi (y := 1) (by decide +kernel) ?_
  refine vv_sld (pc := 499) hS d_law_499 (by unfold vp_in; decide +kernel) ?_
  refine vv_topi (y := xs 1) (congrArg xs (by decide +kernel)) ?_
  refine vv_topi (y := c) hcp ?_
  refine vv_callV (pc := 500) (As := [.int c]) d_law_500 (x_P_charAt_2 (c := c) hc1 hc2 (d := d - 1) (by omega) H0 E0_3) k_P_charAt ml_L_88.1 ml_L_88.2.1 ml_L_88.2.2.1 ml_L_88.2.2.2.1 ml_L_88.2.2.2.2 (by decide) H0 (by omega) (Nat.le_of_ble_eq_true rfl) ?_
  refine vv_aload_n (pc := 503) d_law_503 rfl ?_
  refine vv_aload_n (pc := 504) d_law_504 rfl ?_
  refine vv_iload (pc := 505) d_law_505 rfl ?_
  refine vv_iconst (pc := 507) (v := 1) d_law_507 rfl ?_
  refine vv_iadd (pc := 508) d_law_508 ?_
  refine vv_topi (y := 1) (by decide +kernel) ?_
  refine vv_sld (pc := 509) hS d_law_509 (by unfold vp_in; decide +kernel) ?_
  refine vv_topi (y := xs 1) (congrArg xs (by decide +kernel)) ?_
  refine vv_topi (y := c) hcp ?_
  refine vv_callV (pc := 510) (As := [.int c]) d_law_510 (x_M_charAt_2 (c := c) hc1 hc2 (d := d - 1) (by omega) H26 E26_3) k_M_charAt ml_L_92.1 ml_L_92.2.1 ml_L_92.2.2.1 ml_L_92.2.2.2.1 ml_L_92.2.2.2.2 (by decide) H26 (by omega) (Nat.le_of_ble_eq_true rfl) ?_
  refine vv_icmp_eq (pc := 513) (tgt := 518) d_law_513 rfl (fun _ => ?_) (fun hc => absurd (by decide +kernel) hc)
  refine vv_iinc (pc := 518) (v := 2) d_law_518 rfl (by decide +kernel) (Nat.le_of_ble_eq_true rfl) ?_
  refine vv_goto (pc := 521) (tgt := 23) d_law_521 rfl ?_
  refine vv_iload (pc := 23) d_law_23 rfl ?_
  refine vv_aload_n (pc := 25) d_law_25 rfl ?_
  refine vv_slen (pc := 26) hS d_law_26 ?_
  refine vv_topi (y := 2) (by decide +kernel) ?_
  refine vv_iconst (pc := 27) (v := 2) d_law_27 rfl ?_
  refine vv_isub (pc := 28) d_law_28 ?_
  refine vv_topi (y := 0) (by decide +kernel) ?_
  refine vv_icmp_gt (pc := 29) (tgt := 524) d_law_29 rfl (fun _ => ?_) (fun hc => absurd (by decide +kernel) hc)
  refine vv_iconst (pc := 524) (v := 1) d_law_524 rfl ?_
  exact vv_zret (pc := 525) d_law_525 rfl rfl
