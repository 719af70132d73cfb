/-! ===== the law's cases (printed by wip/whole/lw.py) ===== -/
theorem q_law_0 {G : cp_G} {h h1 h2 : Nat → cp_E} {n n1 n2 z z1 z2 d bb i L : Nat} {xs : Nat → Int32} {g0 g26 : Nat → Value} {c r : Int32} {o : cp_O} {h' : Nat → cp_E} {n' z' : Nat} (hS : cp_scr G bb L xs) (hL : L ≤ 1024) (hi : i + 2 ≤ L) (hd : 1 ≤ d) (hcx : ((xs (i + 1)).toUInt32 % 65536).toInt32 = c) (hP : cp_C G (d - 1) m_P_type [.ref (cp_b G + 0), .int c] h n z (some (.int r)) h1 n1 z1) (hM : cp_C G (d - 1) m_M_type [.ref (cp_b G + 26), .int c] h1 n1 z1 (some (.int r)) h2 n2 z2) (H0 : h 0 = .inr (0, g0)) (H26 : h1 26 = .inr (11, g26)) (hn : 86 ≤ n) (hn1 : 86 ≤ n1) (k : cp_V G m_law d 0 0 o h' n' z' 518 (LH G bb i) [] h2 n2 z2) : cp_V G m_law d 0 0 o h' n' z' 104 (LH G bb i) [] h n z := by
  refine vv_aload_n (pc := 104) d_law_104 rfl ?_
  refine vv_aload_n (pc := 105) d_law_105 rfl ?_
  refine vv_iload (pc := 106) d_law_106 rfl ?_
  refine vv_iconst (pc := 108) (v := 1) d_law_108 rfl ?_
  refine vv_iadd (pc := 109) d_law_109 ?_
  refine vv_topi (y := nI (i + 1)) (nI_1 i) ?_
  refine vv_sld (pc := 110) hS d_law_110 (vp_in_nI (show i + 1 < L by omega) (by omega)) ?_
  refine vv_topi (y := xs (i + 1)) (congrArg xs (nI_clamp (by omega))) ?_
  refine vv_i2c (pc := 111) d_law_111 ?_
  refine vv_topi (y := c) hcx ?_
  refine vv_callV (pc := 112) (As := [.int c]) d_law_112 hP k_P_type ml_L_35.1 ml_L_35.2.1 ml_L_35.2.2.1 ml_L_35.2.2.2.1 ml_L_35.2.2.2.2 (by omega) H0 (by omega) (Nat.le_of_ble_eq_true rfl) ?_
  refine vv_aload_n (pc := 115) d_law_115 rfl ?_
  refine vv_aload_n (pc := 116) d_law_116 rfl ?_
  refine vv_iload (pc := 117) d_law_117 rfl ?_
  refine vv_iconst (pc := 119) (v := 1) d_law_119 rfl ?_
  refine vv_iadd (pc := 120) d_law_120 ?_
  refine vv_topi (y := nI (i + 1)) (nI_1 i) ?_
  refine vv_sld (pc := 121) hS d_law_121 (vp_in_nI (show i + 1 < L by omega) (by omega)) ?_
  refine vv_topi (y := xs (i + 1)) (congrArg xs (nI_clamp (by omega))) ?_
  refine vv_i2c (pc := 122) d_law_122 ?_
  refine vv_topi (y := c) hcx ?_
  refine vv_callV (pc := 123) (As := [.int c]) d_law_123 hM k_M_type ml_L_39.1 ml_L_39.2.1 ml_L_39.2.2.1 ml_L_39.2.2.2.1 ml_L_39.2.2.2.2 (by omega) H26 (by omega) (Nat.le_of_ble_eq_true rfl) ?_
  exact vv_icmp_eq (pc := 126) (tgt := 518) d_law_126 rfl (fun _ => k) (fun hc => absurd rfl hc)
theorem q_law_1 {G : cp_G} {h h1 h2 : Nat → cp_E} {n n1 n2 z z1 z2 d bb i L : Nat} {xs : Nat → Int32} {g0 g26 : Nat → Value} {c r : Int32} {o : cp_O} {h' : Nat → cp_E} {n' z' : Nat} (hS : cp_scr G bb L xs) (hL : L ≤ 1024) (hi : i + 2 ≤ L) (hd : 1 ≤ d) (hP : cp_C G (d - 1) m_P_wipe [.ref (cp_b G + 0)] h n z (some (.int r)) h1 n1 z1) (hM : cp_C G (d - 1) m_M_wipe [.ref (cp_b G + 26)] h1 n1 z1 (some (.int r)) h2 n2 z2) (H0 : h 0 = .inr (0, g0)) (H26 : h1 26 = .inr (11, g26)) (hn : 86 ≤ n) (hn1 : 86 ≤ n1) (k : cp_V G m_law d 0 0 o h' n' z' 518 (LH G bb i) [] h2 n2 z2) : cp_V G m_law d 0 0 o h' n' z' 131 (LH G bb i) [] h n z := by
  refine vv_aload_n (pc := 131) d_law_131 rfl ?_
  refine vv_callV (pc := 132) (As := []) d_law_132 hP k_P_wipe ml_L_40.1 ml_L_40.2.1 ml_L_40.2.2.1 ml_L_40.2.2.2.1 ml_L_40.2.2.2.2 (by omega) H0 (by omega) (Nat.le_of_ble_eq_true rfl) ?_
  refine vv_aload_n (pc := 135) d_law_135 rfl ?_
  refine vv_callV (pc := 136) (As := []) d_law_136 hM k_M_wipe ml_L_44.1 ml_L_44.2.1 ml_L_44.2.2.1 ml_L_44.2.2.2.1 ml_L_44.2.2.2.2 (by omega) H26 (by omega) (Nat.le_of_ble_eq_true rfl) ?_
  exact vv_icmp_eq (pc := 139) (tgt := 518) d_law_139 rfl (fun _ => k) (fun hc => absurd rfl hc)
theorem q_law_4 {G : cp_G} {h h1 h2 : Nat → cp_E} {n n1 n2 z z1 z2 d bb i L : Nat} {xs : Nat → Int32} {g0 g26 : Nat → Value} {c r : Int32} {o : cp_O} {h' : Nat → cp_E} {n' z' : Nat} (hS : cp_scr G bb L xs) (hL : L ≤ 1024) (hi : i + 2 ≤ L) (hd : 1 ≤ d) (hP : cp_C G (d - 1) m_P_check [.ref (cp_b G + 0)] h n z (some (.int r)) h1 n1 z1) (hM : cp_C G (d - 1) m_M_check [.ref (cp_b G + 26)] h1 n1 z1 (some (.int r)) h2 n2 z2) (H0 : h 0 = .inr (0, g0)) (H26 : h1 26 = .inr (11, g26)) (hn : 86 ≤ n) (hn1 : 86 ≤ n1) (k : cp_V G m_law d 0 0 o h' n' z' 518 (LH G bb i) [] h2 n2 z2) : cp_V G m_law d 0 0 o h' n' z' 260 (LH G bb i) [] h n z := by
  refine vv_aload_n (pc := 260) d_law_260 rfl ?_
  refine vv_callV (pc := 261) (As := []) d_law_261 hP k_P_check ml_L_57.1 ml_L_57.2.1 ml_L_57.2.2.1 ml_L_57.2.2.2.1 ml_L_57.2.2.2.2 (by omega) H0 (by omega) (Nat.le_of_ble_eq_true rfl) ?_
  refine vv_aload_n (pc := 264) d_law_264 rfl ?_
  refine vv_callV (pc := 265) (As := []) d_law_265 hM k_M_check ml_L_60.1 ml_L_60.2.1 ml_L_60.2.2.1 ml_L_60.2.2.2.1 ml_L_60.2.2.2.2 (by omega) H26 (by omega) (Nat.le_of_ble_eq_true rfl) ?_
  exact vv_icmp_eq (pc := 268) (tgt := 518) d_law_268 rfl (fun _ => k) (fun hc => absurd rfl hc)
theorem q_law_8 {G : cp_G} {h h1 h2 : Nat → cp_E} {n n1 n2 z z1 z2 d bb i L : Nat} {xs : Nat → Int32} {g0 g26 : Nat → Value} {c r : Int32} {o : cp_O} {h' : Nat → cp_E} {n' z' : Nat} (hS : cp_scr G bb L xs) (hL : L ≤ 1024) (hi : i + 2 ≤ L) (hd : 1 ≤ d) (hP : cp_C G (d - 1) m_P_steps [.ref (cp_b G + 0)] h n z (some (.int r)) h1 n1 z1) (hM : cp_C G (d - 1) m_M_steps [.ref (cp_b G + 26)] h1 n1 z1 (some (.int r)) h2 n2 z2) (H0 : h 0 = .inr (0, g0)) (H26 : h1 26 = .inr (11, g26)) (hn : 86 ≤ n) (hn1 : 86 ≤ n1) (k : cp_V G m_law d 0 0 o h' n' z' 518 (LH G bb i) [] h2 n2 z2) : cp_V G m_law d 0 0 o h' n' z' 413 (LH G bb i) [] h n z := by
  refine vv_aload_n (pc := 413) d_law_413 rfl ?_
  refine vv_callV (pc := 414) (As := []) d_law_414 hP k_P_steps ml_L_72.1 ml_L_72.2.1 ml_L_72.2.2.1 ml_L_72.2.2.2.1 ml_L_72.2.2.2.2 (by omega) H0 (by omega) (Nat.le_of_ble_eq_true rfl) ?_
  refine vv_aload_n (pc := 417) d_law_417 rfl ?_
  refine vv_callV (pc := 418) (As := []) d_law_418 hM k_M_steps ml_L_75.1 ml_L_75.2.1 ml_L_75.2.2.1 ml_L_75.2.2.2.1 ml_L_75.2.2.2.2 (by omega) H26 (by omega) (Nat.le_of_ble_eq_true rfl) ?_
  exact vv_icmp_eq (pc := 421) (tgt := 518) d_law_421 rfl (fun _ => k) (fun hc => absurd rfl hc)
theorem q_law_9 {G : cp_G} {h h1 h2 : Nat → cp_E} {n n1 n2 z z1 z2 d bb i L : Nat} {xs : Nat → Int32} {g0 g26 : Nat → Value} {c r : Int32} {o : cp_O} {h' : Nat → cp_E} {n' z' : Nat} (hS : cp_scr G bb L xs) (hL : L ≤ 1024) (hi : i + 2 ≤ L) (hd : 1 ≤ d) (hcx : ((xs (i + 1)).toUInt32 % 65536).toInt32 = c) (hP : cp_C G (d - 1) m_P_kind [.ref (cp_b G + 0), .int c] h n z (some (.int r)) h1 n1 z1) (hM : cp_C G (d - 1) m_M_kind [.ref (cp_b G + 26), .int c] h1 n1 z1 (some (.int r)) h2 n2 z2) (H0 : h 0 = .inr (0, g0)) (H26 : h1 26 = .inr (11, g26)) (hn : 86 ≤ n) (hn1 : 86 ≤ n1) (k : cp_V G m_law d 0 0 o h' n' z' 518 (LH G bb i) [] h2 n2 z2) : cp_V G m_law d 0 0 o h' n' z' 426 (LH G bb i) [] h n z := by
  refine vv_aload_n (pc := 426) d_law_426 rfl ?_
  refine vv_aload_n (pc := 427) d_law_427 rfl ?_
  refine vv_iload (pc := 428) d_law_428 rfl ?_
  refine vv_iconst (pc := 430) (v := 1) d_law_430 rfl ?_
  refine vv_iadd (pc := 431) d_law_431 ?_
  refine vv_topi (y := nI (i + 1)) (nI_1 i) ?_
  refine vv_sld (pc := 432) hS d_law_432 (vp_in_nI (show i + 1 < L by omega) (by omega)) ?_
  refine vv_topi (y := xs (i + 1)) (congrArg xs (nI_clamp (by omega))) ?_
  refine vv_i2c (pc := 433) d_law_433 ?_
  refine vv_topi (y := c) hcx ?_
  refine vv_callV (pc := 434) (As := [.int c]) d_law_434 hP k_P_kind ml_L_76.1 ml_L_76.2.1 ml_L_76.2.2.1 ml_L_76.2.2.2.1 ml_L_76.2.2.2.2 (by omega) H0 (by omega) (Nat.le_of_ble_eq_true rfl) ?_
  refine vv_aload_n (pc := 437) d_law_437 rfl ?_
  refine vv_aload_n (pc := 438) d_law_438 rfl ?_
  refine vv_iload (pc := 439) d_law_439 rfl ?_
  refine vv_iconst (pc := 441) (v := 1) d_law_441 rfl ?_
  refine vv_iadd (pc := 442) d_law_442 ?_
  refine vv_topi (y := nI (i + 1)) (nI_1 i) ?_
  refine vv_sld (pc := 443) hS d_law_443 (vp_in_nI (show i + 1 < L by omega) (by omega)) ?_
  refine vv_topi (y := xs (i + 1)) (congrArg xs (nI_clamp (by omega))) ?_
  refine vv_i2c (pc := 444) d_law_444 ?_
  refine vv_topi (y := c) hcx ?_
  refine vv_callV (pc := 445) (As := [.int c]) d_law_445 hM k_M_kind ml_L_79.1 ml_L_79.2.1 ml_L_79.2.2.1 ml_L_79.2.2.2.1 ml_L_79.2.2.2.2 (by omega) H26 (by omega) (Nat.le_of_ble_eq_true rfl) ?_
  exact vv_icmp_eq (pc := 448) (tgt := 518) d_law_448 rfl (fun _ => k) (fun hc => absurd rfl hc)
theorem q_law_10 {G : cp_G} {h h1 h2 : Nat → cp_E} {n n1 n2 z z1 z2 d bb i L : Nat} {xs : Nat → Int32} {g0 g26 : Nat → Value} {c r : Int32} {o : cp_O} {h' : Nat → cp_E} {n' z' : Nat} (hS : cp_scr G bb L xs) (hL : L ≤ 1024) (hi : i + 2 ≤ L) (hd : 1 ≤ d) (hcx : ((xs (i + 1)).toUInt32 % 65536).toInt32 = c) (hP : cp_C G (d - 1) m_P_parameters [.ref (cp_b G + 0), .int c] h n z (some (.int r)) h1 n1 z1) (hM : cp_C G (d - 1) m_M_parameters [.ref (cp_b G + 26), .int c] h1 n1 z1 (some (.int r)) h2 n2 z2) (H0 : h 0 = .inr (0, g0)) (H26 : h1 26 = .inr (11, g26)) (hn : 86 ≤ n) (hn1 : 86 ≤ n1) (k : cp_V G m_law d 0 0 o h' n' z' 518 (LH G bb i) [] h2 n2 z2) : cp_V G m_law d 0 0 o h' n' z' 453 (LH G bb i) [] h n z := by
  refine vv_aload_n (pc := 453) d_law_453 rfl ?_
  refine vv_aload_n (pc := 454) d_law_454 rfl ?_
  refine vv_iload (pc := 455) d_law_455 rfl ?_
  refine vv_iconst (pc := 457) (v := 1) d_law_457 rfl ?_
  refine vv_iadd (pc := 458) d_law_458 ?_
  refine vv_topi (y := nI (i + 1)) (nI_1 i) ?_
  refine vv_sld (pc := 459) hS d_law_459 (vp_in_nI (show i + 1 < L by omega) (by omega)) ?_
  refine vv_topi (y := xs (i + 1)) (congrArg xs (nI_clamp (by omega))) ?_
  refine vv_i2c (pc := 460) d_law_460 ?_
  refine vv_topi (y := c) hcx ?_
  refine vv_callV (pc := 461) (As := [.int c]) d_law_461 hP k_P_parameters ml_L_80.1 ml_L_80.2.1 ml_L_80.2.2.1 ml_L_80.2.2.2.1 ml_L_80.2.2.2.2 (by omega) H0 (by omega) (Nat.le_of_ble_eq_true rfl) ?_
  refine vv_aload_n (pc := 464) d_law_464 rfl ?_
  refine vv_aload_n (pc := 465) d_law_465 rfl ?_
  refine vv_iload (pc := 466) d_law_466 rfl ?_
  refine vv_iconst (pc := 468) (v := 1) d_law_468 rfl ?_
  refine vv_iadd (pc := 469) d_law_469 ?_
  refine vv_topi (y := nI (i + 1)) (nI_1 i) ?_
  refine vv_sld (pc := 470) hS d_law_470 (vp_in_nI (show i + 1 < L by omega) (by omega)) ?_
  refine vv_topi (y := xs (i + 1)) (congrArg xs (nI_clamp (by omega))) ?_
  refine vv_i2c (pc := 471) d_law_471 ?_
  refine vv_topi (y := c) hcx ?_
  refine vv_callV (pc := 472) (As := [.int c]) d_law_472 hM k_M_parameters ml_L_83.1 ml_L_83.2.1 ml_L_83.2.2.1 ml_L_83.2.2.2.1 ml_L_83.2.2.2.2 (by omega) H26 (by omega) (Nat.le_of_ble_eq_true rfl) ?_
  exact vv_icmp_eq (pc := 475) (tgt := 518) d_law_475 rfl (fun _ => k) (fun hc => absurd rfl hc)
theorem q_law_11 {G : cp_G} {h h1 h2 : Nat → cp_E} {n n1 n2 z z1 z2 d bb i L : Nat} {xs : Nat → Int32} {g0 g26 : Nat → Value} {c r : Int32} {o : cp_O} {h' : Nat → cp_E} {n' z' : Nat} (hS : cp_scr G bb L xs) (hL : L ≤ 1024) (hi : i + 2 ≤ L) (hd : 1 ≤ d) (hP : cp_C G (d - 1) m_P_length [.ref (cp_b G + 0)] h n z (some (.int r)) h1 n1 z1) (hM : cp_C G (d - 1) m_M_length [.ref (cp_b G + 26)] h1 n1 z1 (some (.int r)) h2 n2 z2) (H0 : h 0 = .inr (0, g0)) (H26 : h1 26 = .inr (11, g26)) (hn : 86 ≤ n) (hn1 : 86 ≤ n1) (k : cp_V G m_law d 0 0 o h' n' z' 518 (LH G bb i) [] h2 n2 z2) : cp_V G m_law d 0 0 o h' n' z' 480 (LH G bb i) [] h n z := by
  refine vv_aload_n (pc := 480) d_law_480 rfl ?_
  refine vv_callV (pc := 481) (As := []) d_law_481 hP k_P_length ml_L_84.1 ml_L_84.2.1 ml_L_84.2.2.1 ml_L_84.2.2.2.1 ml_L_84.2.2.2.2 (by omega) H0 (by omega) (Nat.le_of_ble_eq_true rfl) ?_
  refine vv_aload_n (pc := 484) d_law_484 rfl ?_
  refine vv_callV (pc := 485) (As := []) d_law_485 hM k_M_length ml_L_87.1 ml_L_87.2.1 ml_L_87.2.2.1 ml_L_87.2.2.2.1 ml_L_87.2.2.2.2 (by omega) H26 (by omega) (Nat.le_of_ble_eq_true rfl) ?_
  exact vv_icmp_eq (pc := 488) (tgt := 518) d_law_488 rfl (fun _ => k) (fun hc => absurd rfl hc)
theorem q_law_12 {G : cp_G} {h h1 h2 : Nat → cp_E} {n n1 n2 z z1 z2 d bb i L : Nat} {xs : Nat → Int32} {g0 g26 : Nat → Value} {c r : Int32} {o : cp_O} {h' : Nat → cp_E} {n' z' : Nat} (hS : cp_scr G bb L xs) (hL : L ≤ 1024) (hi : i + 2 ≤ L) (hd : 1 ≤ d) (hcx : xs (i + 1) = c) (hP : cp_C G (d - 1) m_P_charAt [.ref (cp_b G + 0), .int c] h n z (some (.int r)) h1 n1 z1) (hM : cp_C G (d - 1) m_M_charAt [.ref (cp_b G + 26), .int c] h1 n1 z1 (some (.int r)) h2 n2 z2) (H0 : h 0 = .inr (0, g0)) (H26 : h1 26 = .inr (11, g26)) (hn : 86 ≤ n) (hn1 : 86 ≤ n1) (k : cp_V G m_law d 0 0 o h' n' z' 518 (LH G bb i) [] h2 n2 z2) : cp_V G m_law d 0 0 o h' n' z' 493 (LH G bb i) [] h n z := by
  refine vv_aload_n (pc := 493) d_law_493 rfl ?_
  refine vv_aload_n (pc := 494) d_law_494 rfl ?_
  refine vv_iload (pc := 495) d_law_495 rfl ?_
  refine vv_iconst (pc := 497) (v := 1) d_law_497 rfl ?_
  refine vv_iadd (pc := 498) d_law_498 ?_
  refine vv_topi (y := nI (i + 1)) (nI_1 i) ?_
  refine vv_sld (pc := 499) hS d_law_499 (vp_in_nI (show i + 1 < L by omega) (by omega)) ?_
  refine vv_topi (y := xs (i + 1)) (congrArg xs (nI_clamp (by omega))) ?_
  refine vv_topi (y := c) hcx ?_
  refine vv_callV (pc := 500) (As := [.int c]) d_law_500 hP k_P_charAt ml_L_88.1 ml_L_88.2.1 ml_L_88.2.2.1 ml_L_88.2.2.2.1 ml_L_88.2.2.2.2 (by omega) H0 (by omega) (Nat.le_of_ble_eq_true rfl) ?_
  refine vv_aload_n (pc := 503) d_law_503 rfl ?_
  refine vv_aload_n (pc := 504) d_law_504 rfl ?_
  refine vv_iload (pc := 505) d_law_505 rfl ?_
  refine vv_iconst (pc := 507) (v := 1) d_law_507 rfl ?_
  refine vv_iadd (pc := 508) d_law_508 ?_
  refine vv_topi (y := nI (i + 1)) (nI_1 i) ?_
  refine vv_sld (pc := 509) hS d_law_509 (vp_in_nI (show i + 1 < L by omega) (by omega)) ?_
  refine vv_topi (y := xs (i + 1)) (congrArg xs (nI_clamp (by omega))) ?_
  refine vv_topi (y := c) hcx ?_
  refine vv_callV (pc := 510) (As := [.int c]) d_law_510 hM k_M_charAt ml_L_92.1 ml_L_92.2.1 ml_L_92.2.2.1 ml_L_92.2.2.2.1 ml_L_92.2.2.2.2 (by omega) H26 (by omega) (Nat.le_of_ble_eq_true rfl) ?_
  exact vv_icmp_eq (pc := 513) (tgt := 518) d_law_513 rfl (fun _ => k) (fun hc => absurd rfl hc)
theorem q_L_declare_ok {G : cp_G} {h h1 : Nat → cp_E} {n n1 z z1 d : Nat} {g0 : Nat → Value} {c r : Int32} {u : Nat → Int64} (hd : 1 ≤ d) (hP : cp_C G (d - 1) m_P_declare [.ref (cp_b G + 0), .int c] h n z (some (.int r)) h1 n1 z1) (H0 : h 0 = .inr (0, g0)) (hn : 86 ≤ n) (H85 : h1 85 = .inl (cp_cL G, 1, .inr (.inl u))) (hn1 : 86 ≤ n1) : cp_CW G d m_L_declare [(0, 9, 12, 13), (0, 9, 15, 15)] [.ref (cp_b G + 0), .int c, .ref (cp_b G + 85)] h n z (some (.int 0)) (va_up h1 85 (.inl (cp_cL G, 1, .inr (.inl (vp_updL u 0 r.toInt64))))) n1 z1 := by
  refine cp_CW.of rfl (Nat.le_of_ble_eq_true rfl) ?_
  refine vv_aload_n (pc := 0) d_L_declare_0 rfl ?_
  refine vv_iconst (pc := 1) (v := 0) d_L_declare_1 rfl ?_
  refine vv_aload_n (pc := 2) d_L_declare_2 rfl ?_
  refine vv_iload_n (pc := 3) d_L_declare_3 rfl ?_
  refine vv_callV (pc := 4) (As := [.int c]) d_L_declare_4 hP k_P_declare ml_L_7.1 ml_L_7.2.1 ml_L_7.2.2.1 ml_L_7.2.2.2.1 ml_L_7.2.2.2.2 (by omega) H0 (by omega) (Nat.le_of_ble_eq_true rfl) ?_
  refine vv_i2l (pc := 7) d_L_declare_7 ?_
  refine vv_last (pc := 8) d_L_declare_8 (by omega) H85 (by unfold vp_in; decide +kernel) ?_
  refine vv_goto (pc := 9) (tgt := 18) d_L_declare_9 rfl ?_
  refine vv_iconst (pc := 18) (v := 0) d_L_declare_18 rfl ?_
  exact vv_iret (pc := 19) d_L_declare_19 rfl
theorem q_L_declare_12 {G : cp_G} {h h1 : Nat → cp_E} {n n1 z z1 d : Nat} {g0 : Nat → Value} {c r : Int32} {u : Nat → Int64} (hd : 1 ≤ d) (hP : cp_CT G (d - 1) m_P_declare [.ref (cp_b G + 0), .int c] h n z 12 n h1 n1 z1) (H0 : h 0 = .inr (0, g0)) (hn : 86 ≤ n) : cp_CW G d m_L_declare [(0, 9, 12, 13), (0, 9, 15, 15)] [.ref (cp_b G + 0), .int c, .ref (cp_b G + 85)] h n z (some (.int 1)) h1 n1 z1 := by
  refine cp_CW.of rfl (Nat.le_of_ble_eq_true rfl) ?_
  refine vv_aload_n (pc := 0) d_L_declare_0 rfl ?_
  refine vv_iconst (pc := 1) (v := 0) d_L_declare_1 rfl ?_
  refine vv_aload_n (pc := 2) d_L_declare_2 rfl ?_
  refine vv_iload_n (pc := 3) d_L_declare_3 rfl ?_
  refine vv_catch (pc := 4) (As := [.int c]) (hh := [(0, 9, 12, 13), (0, 9, 15, 15)]) (hpc := 12) d_L_declare_4 hP k_P_declare ml_L_7.1 ml_L_7.2.1 ml_L_7.2.2.1 ml_L_7.2.2.2.1 ml_L_7.2.2.2.2 (by omega) H0 (by omega) (Nat.le_of_ble_eq_true rfl) (List.mem_of_getElem? (i := 0) rfl) rfl cl_L_13 cl_L_15 rfl ?_
  refine vv_astore_n (pc := 12) d_L_declare_12 cp_isr_r (Nat.le_of_ble_eq_true rfl) ?_
  refine vv_iconst (pc := 13) (v := 1) d_L_declare_13 rfl ?_
  exact vv_iret (pc := 14) d_L_declare_14 rfl
theorem q_L_declare_13 {G : cp_G} {h h1 : Nat → cp_E} {n n1 z z1 d : Nat} {g0 : Nat → Value} {c r : Int32} {u : Nat → Int64} (hd : 1 ≤ d) (hP : cp_CT G (d - 1) m_P_declare [.ref (cp_b G + 0), .int c] h n z 13 n h1 n1 z1) (H0 : h 0 = .inr (0, g0)) (hn : 86 ≤ n) : cp_CW G d m_L_declare [(0, 9, 12, 13), (0, 9, 15, 15)] [.ref (cp_b G + 0), .int c, .ref (cp_b G + 85)] h n z (some (.int 2)) h1 n1 z1 := by
  refine cp_CW.of rfl (Nat.le_of_ble_eq_true rfl) ?_
  refine vv_aload_n (pc := 0) d_L_declare_0 rfl ?_
  refine vv_iconst (pc := 1) (v := 0) d_L_declare_1 rfl ?_
  refine vv_aload_n (pc := 2) d_L_declare_2 rfl ?_
  refine vv_iload_n (pc := 3) d_L_declare_3 rfl ?_
  refine vv_catch (pc := 4) (As := [.int c]) (hh := [(0, 9, 12, 13), (0, 9, 15, 15)]) (hpc := 15) d_L_declare_4 hP k_P_declare ml_L_7.1 ml_L_7.2.1 ml_L_7.2.2.1 ml_L_7.2.2.2.1 ml_L_7.2.2.2.2 (by omega) H0 (by omega) (Nat.le_of_ble_eq_true rfl) (List.mem_of_getElem? (i := 0) rfl) rfl cl_L_13 cl_L_15 rfl ?_
  refine vv_astore_n (pc := 15) d_L_declare_15 cp_isr_r (Nat.le_of_ble_eq_true rfl) ?_
  refine vv_iconst (pc := 16) (v := 2) d_L_declare_16 rfl ?_
  exact vv_iret (pc := 17) d_L_declare_17 rfl
theorem q_L_program_ok {G : cp_G} {h h1 : Nat → cp_E} {n n1 z z1 d : Nat} {g0 : Nat → Value} {c r : Int32} {u : Nat → Int64} (hd : 1 ≤ d) (hP : cp_C G (d - 1) m_P_program [.ref (cp_b G + 0), .int c] h n z (some (.int r)) h1 n1 z1) (H0 : h 0 = .inr (0, g0)) (hn : 86 ≤ n) (H85 : h1 85 = .inl (cp_cL G, 1, .inr (.inl u))) (hn1 : 86 ≤ n1) : cp_CW G d m_L_program [(0, 9, 12, 13), (0, 9, 15, 15)] [.ref (cp_b G + 0), .int c, .ref (cp_b G + 85)] h n z (some (.int 0)) (va_up h1 85 (.inl (cp_cL G, 1, .inr (.inl (vp_updL u 0 r.toInt64))))) n1 z1 := by
  refine cp_CW.of rfl (Nat.le_of_ble_eq_true rfl) ?_
  refine vv_aload_n (pc := 0) d_L_program_0 rfl ?_
  refine vv_iconst (pc := 1) (v := 0) d_L_program_1 rfl ?_
  refine vv_aload_n (pc := 2) d_L_program_2 rfl ?_
  refine vv_iload_n (pc := 3) d_L_program_3 rfl ?_
  refine vv_callV (pc := 4) (As := [.int c]) d_L_program_4 hP k_P_program ml_L_17.1 ml_L_17.2.1 ml_L_17.2.2.1 ml_L_17.2.2.2.1 ml_L_17.2.2.2.2 (by omega) H0 (by omega) (Nat.le_of_ble_eq_true rfl) ?_
  refine vv_i2l (pc := 7) d_L_program_7 ?_
  refine vv_last (pc := 8) d_L_program_8 (by omega) H85 (by unfold vp_in; decide +kernel) ?_
  refine vv_goto (pc := 9) (tgt := 18) d_L_program_9 rfl ?_
  refine vv_iconst (pc := 18) (v := 0) d_L_program_18 rfl ?_
  exact vv_iret (pc := 19) d_L_program_19 rfl
theorem q_L_program_12 {G : cp_G} {h h1 : Nat → cp_E} {n n1 z z1 d : Nat} {g0 : Nat → Value} {c r : Int32} {u : Nat → Int64} (hd : 1 ≤ d) (hP : cp_CT G (d - 1) m_P_program [.ref (cp_b G + 0), .int c] h n z 12 n h1 n1 z1) (H0 : h 0 = .inr (0, g0)) (hn : 86 ≤ n) : cp_CW G d m_L_program [(0, 9, 12, 13), (0, 9, 15, 15)] [.ref (cp_b G + 0), .int c, .ref (cp_b G + 85)] h n z (some (.int 1)) h1 n1 z1 := by
  refine cp_CW.of rfl (Nat.le_of_ble_eq_true rfl) ?_
  refine vv_aload_n (pc := 0) d_L_program_0 rfl ?_
  refine vv_iconst (pc := 1) (v := 0) d_L_program_1 rfl ?_
  refine vv_aload_n (pc := 2) d_L_program_2 rfl ?_
  refine vv_iload_n (pc := 3) d_L_program_3 rfl ?_
  refine vv_catch (pc := 4) (As := [.int c]) (hh := [(0, 9, 12, 13), (0, 9, 15, 15)]) (hpc := 12) d_L_program_4 hP k_P_program ml_L_17.1 ml_L_17.2.1 ml_L_17.2.2.1 ml_L_17.2.2.2.1 ml_L_17.2.2.2.2 (by omega) H0 (by omega) (Nat.le_of_ble_eq_true rfl) (List.mem_of_getElem? (i := 1) rfl) rfl cl_L_13 cl_L_15 rfl ?_
  refine vv_astore_n (pc := 12) d_L_program_12 cp_isr_r (Nat.le_of_ble_eq_true rfl) ?_
  refine vv_iconst (pc := 13) (v := 1) d_L_program_13 rfl ?_
  exact vv_iret (pc := 14) d_L_program_14 rfl
theorem q_L_program_13 {G : cp_G} {h h1 : Nat → cp_E} {n n1 z z1 d : Nat} {g0 : Nat → Value} {c r : Int32} {u : Nat → Int64} (hd : 1 ≤ d) (hP : cp_CT G (d - 1) m_P_program [.ref (cp_b G + 0), .int c] h n z 13 n h1 n1 z1) (H0 : h 0 = .inr (0, g0)) (hn : 86 ≤ n) : cp_CW G d m_L_program [(0, 9, 12, 13), (0, 9, 15, 15)] [.ref (cp_b G + 0), .int c, .ref (cp_b G + 85)] h n z (some (.int 2)) h1 n1 z1 := by
  refine cp_CW.of rfl (Nat.le_of_ble_eq_true rfl) ?_
  refine vv_aload_n (pc := 0) d_L_program_0 rfl ?_
  refine vv_iconst (pc := 1) (v := 0) d_L_program_1 rfl ?_
  refine vv_aload_n (pc := 2) d_L_program_2 rfl ?_
  refine vv_iload_n (pc := 3) d_L_program_3 rfl ?_
  refine vv_catch (pc := 4) (As := [.int c]) (hh := [(0, 9, 12, 13), (0, 9, 15, 15)]) (hpc := 15) d_L_program_4 hP k_P_program ml_L_17.1 ml_L_17.2.1 ml_L_17.2.2.1 ml_L_17.2.2.2.1 ml_L_17.2.2.2.2 (by omega) H0 (by omega) (Nat.le_of_ble_eq_true rfl) (List.mem_of_getElem? (i := 1) rfl) rfl cl_L_13 cl_L_15 rfl ?_
  refine vv_astore_n (pc := 15) d_L_program_15 cp_isr_r (Nat.le_of_ble_eq_true rfl) ?_
  refine vv_iconst (pc := 16) (v := 2) d_L_program_16 rfl ?_
  exact vv_iret (pc := 17) d_L_program_17 rfl
theorem q_L_run_ok {G : cp_G} {h h1 : Nat → cp_E} {n n1 z z1 d : Nat} {g0 : Nat → Value} {c r : Int32} {u : Nat → Int64} (hd : 1 ≤ d) (hP : cp_C G (d - 1) m_P_run [.ref (cp_b G + 0), .int c] h n z (some (.int r)) h1 n1 z1) (H0 : h 0 = .inr (0, g0)) (hn : 86 ≤ n) (H85 : h1 85 = .inl (cp_cL G, 1, .inr (.inl u))) (hn1 : 86 ≤ n1) : cp_CW G d m_L_run [(0, 9, 12, 13)] [.ref (cp_b G + 0), .int c, .ref (cp_b G + 85)] h n z (some (.int 0)) (va_up h1 85 (.inl (cp_cL G, 1, .inr (.inl (vp_updL u 0 r.toInt64))))) n1 z1 := by
  refine cp_CW.of rfl (Nat.le_of_ble_eq_true rfl) ?_
  refine vv_aload_n (pc := 0) d_L_run_0 rfl ?_
  refine vv_iconst (pc := 1) (v := 0) d_L_run_1 rfl ?_
  refine vv_aload_n (pc := 2) d_L_run_2 rfl ?_
  refine vv_iload_n (pc := 3) d_L_run_3 rfl ?_
  refine vv_callV (pc := 4) (As := [.int c]) d_L_run_4 hP k_P_run ml_L_28.1 ml_L_28.2.1 ml_L_28.2.2.1 ml_L_28.2.2.2.1 ml_L_28.2.2.2.2 (by omega) H0 (by omega) (Nat.le_of_ble_eq_true rfl) ?_
  refine vv_i2l (pc := 7) d_L_run_7 ?_
  refine vv_last (pc := 8) d_L_run_8 (by omega) H85 (by unfold vp_in; decide +kernel) ?_
  refine vv_goto (pc := 9) (tgt := 15) d_L_run_9 rfl ?_
  refine vv_iconst (pc := 15) (v := 0) d_L_run_15 rfl ?_
  exact vv_iret (pc := 16) d_L_run_16 rfl
theorem q_L_run_12 {G : cp_G} {h h1 : Nat → cp_E} {n n1 z z1 d : Nat} {g0 : Nat → Value} {c r : Int32} {u : Nat → Int64} (hd : 1 ≤ d) (hP : cp_CT G (d - 1) m_P_run [.ref (cp_b G + 0), .int c] h n z 12 n h1 n1 z1) (H0 : h 0 = .inr (0, g0)) (hn : 86 ≤ n) : cp_CW G d m_L_run [(0, 9, 12, 13)] [.ref (cp_b G + 0), .int c, .ref (cp_b G + 85)] h n z (some (.int 1)) h1 n1 z1 := by
  refine cp_CW.of rfl (Nat.le_of_ble_eq_true rfl) ?_
  refine vv_aload_n (pc := 0) d_L_run_0 rfl ?_
  refine vv_iconst (pc := 1) (v := 0) d_L_run_1 rfl ?_
  refine vv_aload_n (pc := 2) d_L_run_2 rfl ?_
  refine vv_iload_n (pc := 3) d_L_run_3 rfl ?_
  refine vv_catch (pc := 4) (As := [.int c]) (hh := [(0, 9, 12, 13)]) (hpc := 12) d_L_run_4 hP k_P_run ml_L_28.1 ml_L_28.2.1 ml_L_28.2.2.1 ml_L_28.2.2.2.1 ml_L_28.2.2.2.2 (by omega) H0 (by omega) (Nat.le_of_ble_eq_true rfl) (List.mem_of_getElem? (i := 4) rfl) rfl cl_L_13 cl_L_15 rfl ?_
  refine vv_astore_n (pc := 12) d_L_run_12 cp_isr_r (Nat.le_of_ble_eq_true rfl) ?_
  refine vv_iconst (pc := 13) (v := 1) d_L_run_13 rfl ?_
  exact vv_iret (pc := 14) d_L_run_14 rfl
theorem q_L_retract_ok {G : cp_G} {h h1 : Nat → cp_E} {n n1 z z1 d : Nat} {g0 : Nat → Value} {c r : Int32} {u : Nat → Int64} (hd : 1 ≤ d) (hP : cp_C G (d - 1) m_P_retract [.ref (cp_b G + 0)] h n z (some (.int r)) h1 n1 z1) (H0 : h 0 = .inr (0, g0)) (hn : 86 ≤ n) (H85 : h1 85 = .inl (cp_cL G, 1, .inr (.inl u))) (hn1 : 86 ≤ n1) : cp_CW G d m_L_retract [(0, 8, 11, 15)] [.ref (cp_b G + 0), .ref (cp_b G + 85)] h n z (some (.int 0)) (va_up h1 85 (.inl (cp_cL G, 1, .inr (.inl (vp_updL u 0 r.toInt64))))) n1 z1 := by
  refine cp_CW.of rfl (Nat.le_of_ble_eq_true rfl) ?_
  refine vv_aload_n (pc := 0) d_L_retract_0 rfl ?_
  refine vv_iconst (pc := 1) (v := 0) d_L_retract_1 rfl ?_
  refine vv_aload_n (pc := 2) d_L_retract_2 rfl ?_
  refine vv_callV (pc := 3) (As := []) d_L_retract_3 hP k_P_retract ml_L_24.1 ml_L_24.2.1 ml_L_24.2.2.1 ml_L_24.2.2.2.1 ml_L_24.2.2.2.2 (by omega) H0 (by omega) (Nat.le_of_ble_eq_true rfl) ?_
  refine vv_i2l (pc := 6) d_L_retract_6 ?_
  refine vv_last (pc := 7) d_L_retract_7 (by omega) H85 (by unfold vp_in; decide +kernel) ?_
  refine vv_goto (pc := 8) (tgt := 14) d_L_retract_8 rfl ?_
  refine vv_iconst (pc := 14) (v := 0) d_L_retract_14 rfl ?_
  exact vv_iret (pc := 15) d_L_retract_15 rfl
theorem q_L_retract_13 {G : cp_G} {h h1 : Nat → cp_E} {n n1 z z1 d : Nat} {g0 : Nat → Value} {c r : Int32} {u : Nat → Int64} (hd : 1 ≤ d) (hP : cp_CT G (d - 1) m_P_retract [.ref (cp_b G + 0)] h n z 13 n h1 n1 z1) (H0 : h 0 = .inr (0, g0)) (hn : 86 ≤ n) : cp_CW G d m_L_retract [(0, 8, 11, 15)] [.ref (cp_b G + 0), .ref (cp_b G + 85)] h n z (some (.int 1)) h1 n1 z1 := by
  refine cp_CW.of rfl (Nat.le_of_ble_eq_true rfl) ?_
  refine vv_aload_n (pc := 0) d_L_retract_0 rfl ?_
  refine vv_iconst (pc := 1) (v := 0) d_L_retract_1 rfl ?_
  refine vv_aload_n (pc := 2) d_L_retract_2 rfl ?_
  refine vv_catch (pc := 3) (As := []) (hh := [(0, 8, 11, 15)]) (hpc := 11) d_L_retract_3 hP k_P_retract ml_L_24.1 ml_L_24.2.1 ml_L_24.2.2.1 ml_L_24.2.2.2.1 ml_L_24.2.2.2.2 (by omega) H0 (by omega) (Nat.le_of_ble_eq_true rfl) (List.mem_of_getElem? (i := 3) rfl) rfl cl_L_13 cl_L_15 rfl ?_
  refine vv_astore_n (pc := 11) d_L_retract_11 cp_isr_r (Nat.le_of_ble_eq_true rfl) ?_
  refine vv_iconst (pc := 12) (v := 1) d_L_retract_12 rfl ?_
  exact vv_iret (pc := 13) d_L_retract_13 rfl
theorem q_L_lemma_ok {G : cp_G} {h h1 : Nat → cp_E} {n n1 z z1 d : Nat} {g0 : Nat → Value} {c r : Int32} {u : Nat → Int64} (hd : 1 ≤ d) (hP : cp_C G (d - 1) m_P_lemma [.ref (cp_b G + 0), .int c] h n z none h1 n1 z1) (H0 : h 0 = .inr (0, g0)) (hn : 86 ≤ n) : cp_CW G d m_L_lemma [(0, 5, 8, 13), (0, 5, 11, 15)] [.ref (cp_b G + 0), .int c] h n z (some (.int 0)) h1 n1 z1 := by
  refine cp_CW.of rfl (Nat.le_of_ble_eq_true rfl) ?_
  refine vv_aload_n (pc := 0) d_L_lemma_0 rfl ?_
  refine vv_iload_n (pc := 1) d_L_lemma_1 rfl ?_
  refine vv_callV (pc := 2) (As := [.int c]) d_L_lemma_2 hP k_P_lemma ml_L_20.1 ml_L_20.2.1 ml_L_20.2.2.1 ml_L_20.2.2.2.1 ml_L_20.2.2.2.2 (by omega) H0 (by omega) (Nat.le_of_ble_eq_true rfl) ?_
  refine vv_goto (pc := 5) (tgt := 14) d_L_lemma_5 rfl ?_
  refine vv_iconst (pc := 14) (v := 0) d_L_lemma_14 rfl ?_
  exact vv_iret (pc := 15) d_L_lemma_15 rfl
theorem q_L_lemma_12 {G : cp_G} {h h1 : Nat → cp_E} {n n1 z z1 d : Nat} {g0 : Nat → Value} {c r : Int32} {u : Nat → Int64} (hd : 1 ≤ d) (hP : cp_CT G (d - 1) m_P_lemma [.ref (cp_b G + 0), .int c] h n z 12 n h1 n1 z1) (H0 : h 0 = .inr (0, g0)) (hn : 86 ≤ n) : cp_CW G d m_L_lemma [(0, 5, 8, 13), (0, 5, 11, 15)] [.ref (cp_b G + 0), .int c] h n z (some (.int 1)) h1 n1 z1 := by
  refine cp_CW.of rfl (Nat.le_of_ble_eq_true rfl) ?_
  refine vv_aload_n (pc := 0) d_L_lemma_0 rfl ?_
  refine vv_iload_n (pc := 1) d_L_lemma_1 rfl ?_
  refine vv_catch (pc := 2) (As := [.int c]) (hh := [(0, 5, 8, 13), (0, 5, 11, 15)]) (hpc := 8) d_L_lemma_2 hP k_P_lemma ml_L_20.1 ml_L_20.2.1 ml_L_20.2.2.1 ml_L_20.2.2.2.1 ml_L_20.2.2.2.2 (by omega) H0 (by omega) (Nat.le_of_ble_eq_true rfl) (List.mem_of_getElem? (i := 2) rfl) rfl cl_L_13 cl_L_15 rfl ?_
  refine vv_astore_n (pc := 8) d_L_lemma_8 cp_isr_r (Nat.le_of_ble_eq_true rfl) ?_
  refine vv_iconst (pc := 9) (v := 1) d_L_lemma_9 rfl ?_
  exact vv_iret (pc := 10) d_L_lemma_10 rfl
theorem q_L_lemma_13 {G : cp_G} {h h1 : Nat → cp_E} {n n1 z z1 d : Nat} {g0 : Nat → Value} {c r : Int32} {u : Nat → Int64} (hd : 1 ≤ d) (hP : cp_CT G (d - 1) m_P_lemma [.ref (cp_b G + 0), .int c] h n z 13 n h1 n1 z1) (H0 : h 0 = .inr (0, g0)) (hn : 86 ≤ n) : cp_CW G d m_L_lemma [(0, 5, 8, 13), (0, 5, 11, 15)] [.ref (cp_b G + 0), .int c] h n z (some (.int 2)) h1 n1 z1 := by
  refine cp_CW.of rfl (Nat.le_of_ble_eq_true rfl) ?_
  refine vv_aload_n (pc := 0) d_L_lemma_0 rfl ?_
  refine vv_iload_n (pc := 1) d_L_lemma_1 rfl ?_
  refine vv_catch (pc := 2) (As := [.int c]) (hh := [(0, 5, 8, 13), (0, 5, 11, 15)]) (hpc := 11) d_L_lemma_2 hP k_P_lemma ml_L_20.1 ml_L_20.2.1 ml_L_20.2.2.1 ml_L_20.2.2.2.1 ml_L_20.2.2.2.2 (by omega) H0 (by omega) (Nat.le_of_ble_eq_true rfl) (List.mem_of_getElem? (i := 2) rfl) rfl cl_L_13 cl_L_15 rfl ?_
  refine vv_astore_n (pc := 11) d_L_lemma_11 cp_isr_r (Nat.le_of_ble_eq_true rfl) ?_
  refine vv_iconst (pc := 12) (v := 2) d_L_lemma_12 rfl ?_
  exact vv_iret (pc := 13) d_L_lemma_13 rfl
theorem q_law_2_ok {G : cp_G} {h h1 h2 h3 : Nat → cp_E} {n n1 n2 n3 z z1 z2 z3 d bb i L : Nat} {xs : Nat → Int32} {g26 g27 : Nat → Value} {c r kk : Int32} {u : Nat → Int64} {o : cp_O} {h' : Nat → cp_E} {n' z' : Nat} (hS : cp_scr G bb L xs) (hL : L ≤ 1024) (hi : i + 2 ≤ L) (hd : 1 ≤ d) (hcx : ((xs (i + 1)).toUInt32 % 65536).toInt32 = c) (hP : cp_CW G (d - 1) m_L_declare [(0, 9, 12, 13), (0, 9, 15, 15)] [.ref (cp_b G + 0), .int c, .ref (cp_b G + 85)] h n z (some (.int 0)) h1 n1 z1) (hM : cp_C G (d - 1) m_M_declare [.ref (cp_b G + 26), .int c] h1 n1 z1 (some (.int r)) h2 n2 z2) (H26 : h1 26 = .inr (11, g26)) (hn : 86 ≤ n) (hn1 : 86 ≤ n1) (hT : cp_C G (d - 1) m_M_thrown [.ref (cp_b G + 26)] h2 n2 z2 (some (.int 0)) h3 n3 z3) (H27 : h2 26 = .inr (11, g27)) (hn2 : 86 ≤ n2) (H85 : h3 85 = .inl (cp_cL G, 1, .inr (.inl u))) (hu : u 0 = r.toInt64) (hn3 : 86 ≤ n3) (k : cp_V G m_law d 0 0 o h' n' z' 518 ((6, .int r) :: (5, .int 0) :: LH G bb i) [] h3 n3 z3) : cp_V G m_law d 0 0 o h' n' z' 144 (LH G bb i) [] h n z := by
  refine vv_aload_n (pc := 144) d_law_144 rfl ?_
  refine vv_aload_n (pc := 145) d_law_145 rfl ?_
  refine vv_iload (pc := 146) d_law_146 rfl ?_
  refine vv_iconst (pc := 148) (v := 1) d_law_148 rfl ?_
  refine vv_iadd (pc := 149) d_law_149 ?_
  refine vv_topi (y := nI (i + 1)) (nI_1 i) ?_
  refine vv_sld (pc := 150) hS d_law_150 (vp_in_nI (show i + 1 < L by omega) (by omega)) ?_
  refine vv_topi (y := xs (i + 1)) (congrArg xs (nI_clamp (by omega))) ?_
  refine vv_i2c (pc := 151) d_law_151 ?_
  refine vv_topi (y := c) hcx ?_
  refine vv_aload_n (pc := 152) d_law_152 rfl ?_
  refine vv_callSW (pc := 153) (As := [.ref (cp_b G + 0), .int c, .ref (cp_b G + 85)]) (hh := [(0, 9, 12, 13), (0, 9, 15, 15)]) d_law_153 hP cw_L_declare ci_L_declare (by decide) ⟨by decide, by decide⟩ cn_L_declare ml_L_45.1 ml_L_45.2 (by omega) (Nat.le_of_ble_eq_true rfl) ?_
  refine vv_istore (pc := 156) d_law_156 (Nat.le_of_ble_eq_true rfl) ?_
  refine vv_aload_n (pc := 158) d_law_158 rfl ?_
  refine vv_aload_n (pc := 159) d_law_159 rfl ?_
  refine vv_iload (pc := 160) d_law_160 rfl ?_
  refine vv_iconst (pc := 162) (v := 1) d_law_162 rfl ?_
  refine vv_iadd (pc := 163) d_law_163 ?_
  refine vv_topi (y := nI (i + 1)) (nI_1 i) ?_
  refine vv_sld (pc := 164) hS d_law_164 (vp_in_nI (show i + 1 < L by omega) (by omega)) ?_
  refine vv_topi (y := xs (i + 1)) (congrArg xs (nI_clamp (by omega))) ?_
  refine vv_i2c (pc := 165) d_law_165 ?_
  refine vv_topi (y := c) hcx ?_
  refine vv_callV (pc := 166) (As := [.int c]) d_law_166 hM k_M_declare ml_L_50.1 ml_L_50.2.1 ml_L_50.2.2.1 ml_L_50.2.2.2.1 ml_L_50.2.2.2.2 (by omega) H26 (by omega) (Nat.le_of_ble_eq_true rfl) ?_
  refine vv_istore (pc := 169) d_law_169 (Nat.le_of_ble_eq_true rfl) ?_
  refine vv_aload_n (pc := 171) d_law_171 rfl ?_
  refine vv_callV (pc := 172) (As := []) d_law_172 hT k_M_thrown ml_L_51.1 ml_L_51.2.1 ml_L_51.2.2.1 ml_L_51.2.2.2.1 ml_L_51.2.2.2.2 (by omega) H27 (by omega) (Nat.le_of_ble_eq_true rfl) ?_
  refine vv_iload (pc := 175) d_law_175 rfl ?_
  refine vv_icmp_eq (pc := 177) (tgt := 182) d_law_177 rfl (fun _ => ?_) (fun hc => absurd rfl hc)
  refine vv_iload (pc := 182) d_law_182 rfl ?_
  refine vv_if_ne (pc := 184) (tgt := 199) d_law_184 rfl (fun hc => absurd rfl hc) (fun _ => ?_)
  refine vv_aload_n (pc := 187) d_law_187 rfl ?_
  refine vv_iconst (pc := 188) (v := 0) d_law_188 rfl ?_
  refine vv_lald (pc := 189) d_law_189 (by omega) H85 (by unfold vp_in; decide +kernel) ?_
  refine vv_iload (pc := 190) d_law_190 rfl ?_
  refine vv_i2l (pc := 192) d_law_192 ?_
  refine vv_lcmp (pc := 193) d_law_193 ?_
  refine vv_topi (y := 0) (q_cmp hu) ?_
  refine vv_if_eq (pc := 194) (tgt := 199) d_law_194 rfl (fun _ => ?_) (fun hc => absurd rfl hc)
  exact vv_goto (pc := 199) (tgt := 518) d_law_199 rfl k
theorem q_law_2_thr {G : cp_G} {h h1 h2 h3 : Nat → cp_E} {n n1 n2 n3 z z1 z2 z3 d bb i L : Nat} {xs : Nat → Int32} {g26 g27 : Nat → Value} {c r kk : Int32} {u : Nat → Int64} {o : cp_O} {h' : Nat → cp_E} {n' z' : Nat} (hS : cp_scr G bb L xs) (hL : L ≤ 1024) (hi : i + 2 ≤ L) (hd : 1 ≤ d) (hcx : ((xs (i + 1)).toUInt32 % 65536).toInt32 = c) (hP : cp_CW G (d - 1) m_L_declare [(0, 9, 12, 13), (0, 9, 15, 15)] [.ref (cp_b G + 0), .int c, .ref (cp_b G + 85)] h n z (some (.int kk)) h1 n1 z1) (hM : cp_C G (d - 1) m_M_declare [.ref (cp_b G + 26), .int c] h1 n1 z1 (some (.int r)) h2 n2 z2) (H26 : h1 26 = .inr (11, g26)) (hn : 86 ≤ n) (hn1 : 86 ≤ n1) (hT : cp_C G (d - 1) m_M_thrown [.ref (cp_b G + 26)] h2 n2 z2 (some (.int kk)) h3 n3 z3) (H27 : h2 26 = .inr (11, g27)) (hn2 : 86 ≤ n2) (hk : ¬ kk = 0) (k : cp_V G m_law d 0 0 o h' n' z' 518 ((6, .int r) :: (5, .int kk) :: LH G bb i) [] h3 n3 z3) : cp_V G m_law d 0 0 o h' n' z' 144 (LH G bb i) [] h n z := by
  refine vv_aload_n (pc := 144) d_law_144 rfl ?_
  refine vv_aload_n (pc := 145) d_law_145 rfl ?_
  refine vv_iload (pc := 146) d_law_146 rfl ?_
  refine vv_iconst (pc := 148) (v := 1) d_law_148 rfl ?_
  refine vv_iadd (pc := 149) d_law_149 ?_
  refine vv_topi (y := nI (i + 1)) (nI_1 i) ?_
  refine vv_sld (pc := 150) hS d_law_150 (vp_in_nI (show i + 1 < L by omega) (by omega)) ?_
  refine vv_topi (y := xs (i + 1)) (congrArg xs (nI_clamp (by omega))) ?_
  refine vv_i2c (pc := 151) d_law_151 ?_
  refine vv_topi (y := c) hcx ?_
  refine vv_aload_n (pc := 152) d_law_152 rfl ?_
  refine vv_callSW (pc := 153) (As := [.ref (cp_b G + 0), .int c, .ref (cp_b G + 85)]) (hh := [(0, 9, 12, 13), (0, 9, 15, 15)]) d_law_153 hP cw_L_declare ci_L_declare (by decide) ⟨by decide, by decide⟩ cn_L_declare ml_L_45.1 ml_L_45.2 (by omega) (Nat.le_of_ble_eq_true rfl) ?_
  refine vv_istore (pc := 156) d_law_156 (Nat.le_of_ble_eq_true rfl) ?_
  refine vv_aload_n (pc := 158) d_law_158 rfl ?_
  refine vv_aload_n (pc := 159) d_law_159 rfl ?_
  refine vv_iload (pc := 160) d_law_160 rfl ?_
  refine vv_iconst (pc := 162) (v := 1) d_law_162 rfl ?_
  refine vv_iadd (pc := 163) d_law_163 ?_
  refine vv_topi (y := nI (i + 1)) (nI_1 i) ?_
  refine vv_sld (pc := 164) hS d_law_164 (vp_in_nI (show i + 1 < L by omega) (by omega)) ?_
  refine vv_topi (y := xs (i + 1)) (congrArg xs (nI_clamp (by omega))) ?_
  refine vv_i2c (pc := 165) d_law_165 ?_
  refine vv_topi (y := c) hcx ?_
  refine vv_callV (pc := 166) (As := [.int c]) d_law_166 hM k_M_declare ml_L_50.1 ml_L_50.2.1 ml_L_50.2.2.1 ml_L_50.2.2.2.1 ml_L_50.2.2.2.2 (by omega) H26 (by omega) (Nat.le_of_ble_eq_true rfl) ?_
  refine vv_istore (pc := 169) d_law_169 (Nat.le_of_ble_eq_true rfl) ?_
  refine vv_aload_n (pc := 171) d_law_171 rfl ?_
  refine vv_callV (pc := 172) (As := []) d_law_172 hT k_M_thrown ml_L_51.1 ml_L_51.2.1 ml_L_51.2.2.1 ml_L_51.2.2.2.1 ml_L_51.2.2.2.2 (by omega) H27 (by omega) (Nat.le_of_ble_eq_true rfl) ?_
  refine vv_iload (pc := 175) d_law_175 rfl ?_
  refine vv_icmp_eq (pc := 177) (tgt := 182) d_law_177 rfl (fun _ => ?_) (fun hc => absurd rfl hc)
  refine vv_iload (pc := 182) d_law_182 rfl ?_
  refine vv_if_ne (pc := 184) (tgt := 199) d_law_184 rfl (fun _ => ?_) (fun hc => absurd hc hk)
  exact vv_goto (pc := 199) (tgt := 518) d_law_199 rfl k
theorem q_law_3_ok {G : cp_G} {h h1 h2 h3 : Nat → cp_E} {n n1 n2 n3 z z1 z2 z3 d bb i L : Nat} {xs : Nat → Int32} {g26 g27 : Nat → Value} {c r kk : Int32} {u : Nat → Int64} {o : cp_O} {h' : Nat → cp_E} {n' z' : Nat} (hS : cp_scr G bb L xs) (hL : L ≤ 1024) (hi : i + 2 ≤ L) (hd : 1 ≤ d) (hcx : ((xs (i + 1)).toUInt32 % 65536).toInt32 = c) (hP : cp_CW G (d - 1) m_L_program [(0, 9, 12, 13), (0, 9, 15, 15)] [.ref (cp_b G + 0), .int c, .ref (cp_b G + 85)] h n z (some (.int 0)) h1 n1 z1) (hM : cp_C G (d - 1) m_M_program [.ref (cp_b G + 26), .int c] h1 n1 z1 (some (.int r)) h2 n2 z2) (H26 : h1 26 = .inr (11, g26)) (hn : 86 ≤ n) (hn1 : 86 ≤ n1) (hT : cp_C G (d - 1) m_M_thrown [.ref (cp_b G + 26)] h2 n2 z2 (some (.int 0)) h3 n3 z3) (H27 : h2 26 = .inr (11, g27)) (hn2 : 86 ≤ n2) (H85 : h3 85 = .inl (cp_cL G, 1, .inr (.inl u))) (hu : u 0 = r.toInt64) (hn3 : 86 ≤ n3) (k : cp_V G m_law d 0 0 o h' n' z' 518 ((6, .int r) :: (5, .int 0) :: LH G bb i) [] h3 n3 z3) : cp_V G m_law d 0 0 o h' n' z' 202 (LH G bb i) [] h n z := by
  refine vv_aload_n (pc := 202) d_law_202 rfl ?_
  refine vv_aload_n (pc := 203) d_law_203 rfl ?_
  refine vv_iload (pc := 204) d_law_204 rfl ?_
  refine vv_iconst (pc := 206) (v := 1) d_law_206 rfl ?_
  refine vv_iadd (pc := 207) d_law_207 ?_
  refine vv_topi (y := nI (i + 1)) (nI_1 i) ?_
  refine vv_sld (pc := 208) hS d_law_208 (vp_in_nI (show i + 1 < L by omega) (by omega)) ?_
  refine vv_topi (y := xs (i + 1)) (congrArg xs (nI_clamp (by omega))) ?_
  refine vv_i2c (pc := 209) d_law_209 ?_
  refine vv_topi (y := c) hcx ?_
  refine vv_aload_n (pc := 210) d_law_210 rfl ?_
  refine vv_callSW (pc := 211) (As := [.ref (cp_b G + 0), .int c, .ref (cp_b G + 85)]) (hh := [(0, 9, 12, 13), (0, 9, 15, 15)]) d_law_211 hP cw_L_program ci_L_program (by decide) ⟨by decide, by decide⟩ cn_L_program ml_L_54.1 ml_L_54.2 (by omega) (Nat.le_of_ble_eq_true rfl) ?_
  refine vv_istore (pc := 214) d_law_214 (Nat.le_of_ble_eq_true rfl) ?_
  refine vv_aload_n (pc := 216) d_law_216 rfl ?_
  refine vv_aload_n (pc := 217) d_law_217 rfl ?_
  refine vv_iload (pc := 218) d_law_218 rfl ?_
  refine vv_iconst (pc := 220) (v := 1) d_law_220 rfl ?_
  refine vv_iadd (pc := 221) d_law_221 ?_
  refine vv_topi (y := nI (i + 1)) (nI_1 i) ?_
  refine vv_sld (pc := 222) hS d_law_222 (vp_in_nI (show i + 1 < L by omega) (by omega)) ?_
  refine vv_topi (y := xs (i + 1)) (congrArg xs (nI_clamp (by omega))) ?_
  refine vv_i2c (pc := 223) d_law_223 ?_
  refine vv_topi (y := c) hcx ?_
  refine vv_callV (pc := 224) (As := [.int c]) d_law_224 hM k_M_program ml_L_56.1 ml_L_56.2.1 ml_L_56.2.2.1 ml_L_56.2.2.2.1 ml_L_56.2.2.2.2 (by omega) H26 (by omega) (Nat.le_of_ble_eq_true rfl) ?_
  refine vv_istore (pc := 227) d_law_227 (Nat.le_of_ble_eq_true rfl) ?_
  refine vv_aload_n (pc := 229) d_law_229 rfl ?_
  refine vv_callV (pc := 230) (As := []) d_law_230 hT k_M_thrown ml_L_51.1 ml_L_51.2.1 ml_L_51.2.2.1 ml_L_51.2.2.2.1 ml_L_51.2.2.2.2 (by omega) H27 (by omega) (Nat.le_of_ble_eq_true rfl) ?_
  refine vv_iload (pc := 233) d_law_233 rfl ?_
  refine vv_icmp_eq (pc := 235) (tgt := 240) d_law_235 rfl (fun _ => ?_) (fun hc => absurd rfl hc)
  refine vv_iload (pc := 240) d_law_240 rfl ?_
  refine vv_if_ne (pc := 242) (tgt := 257) d_law_242 rfl (fun hc => absurd rfl hc) (fun _ => ?_)
  refine vv_aload_n (pc := 245) d_law_245 rfl ?_
  refine vv_iconst (pc := 246) (v := 0) d_law_246 rfl ?_
  refine vv_lald (pc := 247) d_law_247 (by omega) H85 (by unfold vp_in; decide +kernel) ?_
  refine vv_iload (pc := 248) d_law_248 rfl ?_
  refine vv_i2l (pc := 250) d_law_250 ?_
  refine vv_lcmp (pc := 251) d_law_251 ?_
  refine vv_topi (y := 0) (q_cmp hu) ?_
  refine vv_if_eq (pc := 252) (tgt := 257) d_law_252 rfl (fun _ => ?_) (fun hc => absurd rfl hc)
  exact vv_goto (pc := 257) (tgt := 518) d_law_257 rfl k
theorem q_law_3_thr {G : cp_G} {h h1 h2 h3 : Nat → cp_E} {n n1 n2 n3 z z1 z2 z3 d bb i L : Nat} {xs : Nat → Int32} {g26 g27 : Nat → Value} {c r kk : Int32} {u : Nat → Int64} {o : cp_O} {h' : Nat → cp_E} {n' z' : Nat} (hS : cp_scr G bb L xs) (hL : L ≤ 1024) (hi : i + 2 ≤ L) (hd : 1 ≤ d) (hcx : ((xs (i + 1)).toUInt32 % 65536).toInt32 = c) (hP : cp_CW G (d - 1) m_L_program [(0, 9, 12, 13), (0, 9, 15, 15)] [.ref (cp_b G + 0), .int c, .ref (cp_b G + 85)] h n z (some (.int kk)) h1 n1 z1) (hM : cp_C G (d - 1) m_M_program [.ref (cp_b G + 26), .int c] h1 n1 z1 (some (.int r)) h2 n2 z2) (H26 : h1 26 = .inr (11, g26)) (hn : 86 ≤ n) (hn1 : 86 ≤ n1) (hT : cp_C G (d - 1) m_M_thrown [.ref (cp_b G + 26)] h2 n2 z2 (some (.int kk)) h3 n3 z3) (H27 : h2 26 = .inr (11, g27)) (hn2 : 86 ≤ n2) (hk : ¬ kk = 0) (k : cp_V G m_law d 0 0 o h' n' z' 518 ((6, .int r) :: (5, .int kk) :: LH G bb i) [] h3 n3 z3) : cp_V G m_law d 0 0 o h' n' z' 202 (LH G bb i) [] h n z := by
  refine vv_aload_n (pc := 202) d_law_202 rfl ?_
  refine vv_aload_n (pc := 203) d_law_203 rfl ?_
  refine vv_iload (pc := 204) d_law_204 rfl ?_
  refine vv_iconst (pc := 206) (v := 1) d_law_206 rfl ?_
  refine vv_iadd (pc := 207) d_law_207 ?_
  refine vv_topi (y := nI (i + 1)) (nI_1 i) ?_
  refine vv_sld (pc := 208) hS d_law_208 (vp_in_nI (show i + 1 < L by omega) (by omega)) ?_
  refine vv_topi (y := xs (i + 1)) (congrArg xs (nI_clamp (by omega))) ?_
  refine vv_i2c (pc := 209) d_law_209 ?_
  refine vv_topi (y := c) hcx ?_
  refine vv_aload_n (pc := 210) d_law_210 rfl ?_
  refine vv_callSW (pc := 211) (As := [.ref (cp_b G + 0), .int c, .ref (cp_b G + 85)]) (hh := [(0, 9, 12, 13), (0, 9, 15, 15)]) d_law_211 hP cw_L_program ci_L_program (by decide) ⟨by decide, by decide⟩ cn_L_program ml_L_54.1 ml_L_54.2 (by omega) (Nat.le_of_ble_eq_true rfl) ?_
  refine vv_istore (pc := 214) d_law_214 (Nat.le_of_ble_eq_true rfl) ?_
  refine vv_aload_n (pc := 216) d_law_216 rfl ?_
  refine vv_aload_n (pc := 217) d_law_217 rfl ?_
  refine vv_iload (pc := 218) d_law_218 rfl ?_
  refine vv_iconst (pc := 220) (v := 1) d_law_220 rfl ?_
  refine vv_iadd (pc := 221) d_law_221 ?_
  refine vv_topi (y := nI (i + 1)) (nI_1 i) ?_
  refine vv_sld (pc := 222) hS d_law_222 (vp_in_nI (show i + 1 < L by omega) (by omega)) ?_
  refine vv_topi (y := xs (i + 1)) (congrArg xs (nI_clamp (by omega))) ?_
  refine vv_i2c (pc := 223) d_law_223 ?_
  refine vv_topi (y := c) hcx ?_
  refine vv_callV (pc := 224) (As := [.int c]) d_law_224 hM k_M_program ml_L_56.1 ml_L_56.2.1 ml_L_56.2.2.1 ml_L_56.2.2.2.1 ml_L_56.2.2.2.2 (by omega) H26 (by omega) (Nat.le_of_ble_eq_true rfl) ?_
  refine vv_istore (pc := 227) d_law_227 (Nat.le_of_ble_eq_true rfl) ?_
  refine vv_aload_n (pc := 229) d_law_229 rfl ?_
  refine vv_callV (pc := 230) (As := []) d_law_230 hT k_M_thrown ml_L_51.1 ml_L_51.2.1 ml_L_51.2.2.1 ml_L_51.2.2.2.1 ml_L_51.2.2.2.2 (by omega) H27 (by omega) (Nat.le_of_ble_eq_true rfl) ?_
  refine vv_iload (pc := 233) d_law_233 rfl ?_
  refine vv_icmp_eq (pc := 235) (tgt := 240) d_law_235 rfl (fun _ => ?_) (fun hc => absurd rfl hc)
  refine vv_iload (pc := 240) d_law_240 rfl ?_
  refine vv_if_ne (pc := 242) (tgt := 257) d_law_242 rfl (fun _ => ?_) (fun hc => absurd hc hk)
  exact vv_goto (pc := 257) (tgt := 518) d_law_257 rfl k
theorem q_law_5_all {G : cp_G} {h h1 h2 h3 : Nat → cp_E} {n n1 n2 n3 z z1 z2 z3 d bb i L : Nat} {xs : Nat → Int32} {g26 g27 : Nat → Value} {c r kk : Int32} {u : Nat → Int64} {o : cp_O} {h' : Nat → cp_E} {n' z' : Nat} (hS : cp_scr G bb L xs) (hL : L ≤ 1024) (hi : i + 2 ≤ L) (hd : 1 ≤ d) (hcx : ((xs (i + 1)).toUInt32 % 65536).toInt32 = c) (hP : cp_CW G (d - 1) m_L_lemma [(0, 5, 8, 13), (0, 5, 11, 15)] [.ref (cp_b G + 0), .int c] h n z (some (.int kk)) h1 n1 z1) (hM : cp_C G (d - 1) m_M_lemma [.ref (cp_b G + 26), .int c] h1 n1 z1 none h2 n2 z2) (H26 : h1 26 = .inr (11, g26)) (hn : 86 ≤ n) (hn1 : 86 ≤ n1) (hT : cp_C G (d - 1) m_M_thrown [.ref (cp_b G + 26)] h2 n2 z2 (some (.int kk)) h3 n3 z3) (H27 : h2 26 = .inr (11, g27)) (hn2 : 86 ≤ n2) (k : cp_V G m_law d 0 0 o h' n' z' 518 ((5, .int kk) :: LH G bb i) [] h3 n3 z3) : cp_V G m_law d 0 0 o h' n' z' 273 (LH G bb i) [] h n z := by
  refine vv_aload_n (pc := 273) d_law_273 rfl ?_
  refine vv_aload_n (pc := 274) d_law_274 rfl ?_
  refine vv_iload (pc := 275) d_law_275 rfl ?_
  refine vv_iconst (pc := 277) (v := 1) d_law_277 rfl ?_
  refine vv_iadd (pc := 278) d_law_278 ?_
  refine vv_topi (y := nI (i + 1)) (nI_1 i) ?_
  refine vv_sld (pc := 279) hS d_law_279 (vp_in_nI (show i + 1 < L by omega) (by omega)) ?_
  refine vv_topi (y := xs (i + 1)) (congrArg xs (nI_clamp (by omega))) ?_
  refine vv_i2c (pc := 280) d_law_280 ?_
  refine vv_topi (y := c) hcx ?_
  refine vv_callSW (pc := 281) (As := [.ref (cp_b G + 0), .int c]) (hh := [(0, 5, 8, 13), (0, 5, 11, 15)]) d_law_281 hP cw_L_lemma ci_L_lemma (by decide) ⟨by decide, by decide⟩ cn_L_lemma ml_L_61.1 ml_L_61.2 (by omega) (Nat.le_of_ble_eq_true rfl) ?_
  refine vv_istore (pc := 284) d_law_284 (Nat.le_of_ble_eq_true rfl) ?_
  refine vv_aload_n (pc := 286) d_law_286 rfl ?_
  refine vv_aload_n (pc := 287) d_law_287 rfl ?_
  refine vv_iload (pc := 288) d_law_288 rfl ?_
  refine vv_iconst (pc := 290) (v := 1) d_law_290 rfl ?_
  refine vv_iadd (pc := 291) d_law_291 ?_
  refine vv_topi (y := nI (i + 1)) (nI_1 i) ?_
  refine vv_sld (pc := 292) hS d_law_292 (vp_in_nI (show i + 1 < L by omega) (by omega)) ?_
  refine vv_topi (y := xs (i + 1)) (congrArg xs (nI_clamp (by omega))) ?_
  refine vv_i2c (pc := 293) d_law_293 ?_
  refine vv_topi (y := c) hcx ?_
  refine vv_callV (pc := 294) (As := [.int c]) d_law_294 hM k_M_lemma ml_L_64.1 ml_L_64.2.1 ml_L_64.2.2.1 ml_L_64.2.2.2.1 ml_L_64.2.2.2.2 (by omega) H26 (by omega) (Nat.le_of_ble_eq_true rfl) ?_
  refine vv_aload_n (pc := 297) d_law_297 rfl ?_
  refine vv_callV (pc := 298) (As := []) d_law_298 hT k_M_thrown ml_L_51.1 ml_L_51.2.1 ml_L_51.2.2.1 ml_L_51.2.2.2.1 ml_L_51.2.2.2.2 (by omega) H27 (by omega) (Nat.le_of_ble_eq_true rfl) ?_
  refine vv_iload (pc := 301) d_law_301 rfl ?_
  refine vv_icmp_eq (pc := 303) (tgt := 308) d_law_303 rfl (fun _ => ?_) (fun hc => absurd rfl hc)
  exact vv_goto (pc := 308) (tgt := 518) d_law_308 rfl k
theorem q_law_6_ok {G : cp_G} {h h1 h2 h3 : Nat → cp_E} {n n1 n2 n3 z z1 z2 z3 d bb i L : Nat} {xs : Nat → Int32} {g26 g27 : Nat → Value} {c r kk : Int32} {u : Nat → Int64} {o : cp_O} {h' : Nat → cp_E} {n' z' : Nat} (hS : cp_scr G bb L xs) (hL : L ≤ 1024) (hi : i + 2 ≤ L) (hd : 1 ≤ d) (hP : cp_CW G (d - 1) m_L_retract [(0, 8, 11, 15)] [.ref (cp_b G + 0), .ref (cp_b G + 85)] h n z (some (.int 0)) h1 n1 z1) (hM : cp_C G (d - 1) m_M_retract [.ref (cp_b G + 26)] h1 n1 z1 (some (.int r)) h2 n2 z2) (H26 : h1 26 = .inr (11, g26)) (hn : 86 ≤ n) (hn1 : 86 ≤ n1) (hT : cp_C G (d - 1) m_M_thrown [.ref (cp_b G + 26)] h2 n2 z2 (some (.int 0)) h3 n3 z3) (H27 : h2 26 = .inr (11, g27)) (hn2 : 86 ≤ n2) (H85 : h3 85 = .inl (cp_cL G, 1, .inr (.inl u))) (hu : u 0 = r.toInt64) (hn3 : 86 ≤ n3) (k : cp_V G m_law d 0 0 o h' n' z' 518 ((6, .int r) :: (5, .int 0) :: LH G bb i) [] h3 n3 z3) : cp_V G m_law d 0 0 o h' n' z' 311 (LH G bb i) [] h n z := by
  refine vv_aload_n (pc := 311) d_law_311 rfl ?_
  refine vv_aload_n (pc := 312) d_law_312 rfl ?_
  refine vv_callSW (pc := 313) (As := [.ref (cp_b G + 0), .ref (cp_b G + 85)]) (hh := [(0, 8, 11, 15)]) d_law_313 hP cw_L_retract ci_L_retract (by decide) ⟨by decide, by decide⟩ cn_L_retract ml_L_65.1 ml_L_65.2 (by omega) (Nat.le_of_ble_eq_true rfl) ?_
  refine vv_istore (pc := 316) d_law_316 (Nat.le_of_ble_eq_true rfl) ?_
  refine vv_aload_n (pc := 318) d_law_318 rfl ?_
  refine vv_callV (pc := 319) (As := []) d_law_319 hM k_M_retract ml_L_68.1 ml_L_68.2.1 ml_L_68.2.2.1 ml_L_68.2.2.2.1 ml_L_68.2.2.2.2 (by omega) H26 (by omega) (Nat.le_of_ble_eq_true rfl) ?_
  refine vv_istore (pc := 322) d_law_322 (Nat.le_of_ble_eq_true rfl) ?_
  refine vv_aload_n (pc := 324) d_law_324 rfl ?_
  refine vv_callV (pc := 325) (As := []) d_law_325 hT k_M_thrown ml_L_51.1 ml_L_51.2.1 ml_L_51.2.2.1 ml_L_51.2.2.2.1 ml_L_51.2.2.2.2 (by omega) H27 (by omega) (Nat.le_of_ble_eq_true rfl) ?_
  refine vv_iload (pc := 328) d_law_328 rfl ?_
  refine vv_icmp_eq (pc := 330) (tgt := 335) d_law_330 rfl (fun _ => ?_) (fun hc => absurd rfl hc)
  refine vv_iload (pc := 335) d_law_335 rfl ?_
  refine vv_if_ne (pc := 337) (tgt := 352) d_law_337 rfl (fun hc => absurd rfl hc) (fun _ => ?_)
  refine vv_aload_n (pc := 340) d_law_340 rfl ?_
  refine vv_iconst (pc := 341) (v := 0) d_law_341 rfl ?_
  refine vv_lald (pc := 342) d_law_342 (by omega) H85 (by unfold vp_in; decide +kernel) ?_
  refine vv_iload (pc := 343) d_law_343 rfl ?_
  refine vv_i2l (pc := 345) d_law_345 ?_
  refine vv_lcmp (pc := 346) d_law_346 ?_
  refine vv_topi (y := 0) (q_cmp hu) ?_
  refine vv_if_eq (pc := 347) (tgt := 352) d_law_347 rfl (fun _ => ?_) (fun hc => absurd rfl hc)
  exact vv_goto (pc := 352) (tgt := 518) d_law_352 rfl k
theorem q_law_6_thr {G : cp_G} {h h1 h2 h3 : Nat → cp_E} {n n1 n2 n3 z z1 z2 z3 d bb i L : Nat} {xs : Nat → Int32} {g26 g27 : Nat → Value} {c r kk : Int32} {u : Nat → Int64} {o : cp_O} {h' : Nat → cp_E} {n' z' : Nat} (hS : cp_scr G bb L xs) (hL : L ≤ 1024) (hi : i + 2 ≤ L) (hd : 1 ≤ d) (hP : cp_CW G (d - 1) m_L_retract [(0, 8, 11, 15)] [.ref (cp_b G + 0), .ref (cp_b G + 85)] h n z (some (.int kk)) h1 n1 z1) (hM : cp_C G (d - 1) m_M_retract [.ref (cp_b G + 26)] h1 n1 z1 (some (.int r)) h2 n2 z2) (H26 : h1 26 = .inr (11, g26)) (hn : 86 ≤ n) (hn1 : 86 ≤ n1) (hT : cp_C G (d - 1) m_M_thrown [.ref (cp_b G + 26)] h2 n2 z2 (some (.int kk)) h3 n3 z3) (H27 : h2 26 = .inr (11, g27)) (hn2 : 86 ≤ n2) (hk : ¬ kk = 0) (k : cp_V G m_law d 0 0 o h' n' z' 518 ((6, .int r) :: (5, .int kk) :: LH G bb i) [] h3 n3 z3) : cp_V G m_law d 0 0 o h' n' z' 311 (LH G bb i) [] h n z := by
  refine vv_aload_n (pc := 311) d_law_311 rfl ?_
  refine vv_aload_n (pc := 312) d_law_312 rfl ?_
  refine vv_callSW (pc := 313) (As := [.ref (cp_b G + 0), .ref (cp_b G + 85)]) (hh := [(0, 8, 11, 15)]) d_law_313 hP cw_L_retract ci_L_retract (by decide) ⟨by decide, by decide⟩ cn_L_retract ml_L_65.1 ml_L_65.2 (by omega) (Nat.le_of_ble_eq_true rfl) ?_
  refine vv_istore (pc := 316) d_law_316 (Nat.le_of_ble_eq_true rfl) ?_
  refine vv_aload_n (pc := 318) d_law_318 rfl ?_
  refine vv_callV (pc := 319) (As := []) d_law_319 hM k_M_retract ml_L_68.1 ml_L_68.2.1 ml_L_68.2.2.1 ml_L_68.2.2.2.1 ml_L_68.2.2.2.2 (by omega) H26 (by omega) (Nat.le_of_ble_eq_true rfl) ?_
  refine vv_istore (pc := 322) d_law_322 (Nat.le_of_ble_eq_true rfl) ?_
  refine vv_aload_n (pc := 324) d_law_324 rfl ?_
  refine vv_callV (pc := 325) (As := []) d_law_325 hT k_M_thrown ml_L_51.1 ml_L_51.2.1 ml_L_51.2.2.1 ml_L_51.2.2.2.1 ml_L_51.2.2.2.2 (by omega) H27 (by omega) (Nat.le_of_ble_eq_true rfl) ?_
  refine vv_iload (pc := 328) d_law_328 rfl ?_
  refine vv_icmp_eq (pc := 330) (tgt := 335) d_law_330 rfl (fun _ => ?_) (fun hc => absurd rfl hc)
  refine vv_iload (pc := 335) d_law_335 rfl ?_
  refine vv_if_ne (pc := 337) (tgt := 352) d_law_337 rfl (fun _ => ?_) (fun hc => absurd hc hk)
  exact vv_goto (pc := 352) (tgt := 518) d_law_352 rfl k
theorem q_law_7_ok {G : cp_G} {h h1 h2 h3 : Nat → cp_E} {n n1 n2 n3 z z1 z2 z3 d bb i L : Nat} {xs : Nat → Int32} {g26 g27 : Nat → Value} {c r kk : Int32} {u : Nat → Int64} {o : cp_O} {h' : Nat → cp_E} {n' z' : Nat} (hS : cp_scr G bb L xs) (hL : L ≤ 1024) (hi : i + 2 ≤ L) (hd : 1 ≤ d) (hcx : ((xs (i + 1)).toUInt32 % 65536).toInt32 = c) (hP : cp_CW G (d - 1) m_L_run [(0, 9, 12, 13)] [.ref (cp_b G + 0), .int c, .ref (cp_b G + 85)] h n z (some (.int 0)) h1 n1 z1) (hM : cp_C G (d - 1) m_M_run [.ref (cp_b G + 26), .int c] h1 n1 z1 (some (.int r)) h2 n2 z2) (H26 : h1 26 = .inr (11, g26)) (hn : 86 ≤ n) (hn1 : 86 ≤ n1) (hT : cp_C G (d - 1) m_M_thrown [.ref (cp_b G + 26)] h2 n2 z2 (some (.int 0)) h3 n3 z3) (H27 : h2 26 = .inr (11, g27)) (hn2 : 86 ≤ n2) (H85 : h3 85 = .inl (cp_cL G, 1, .inr (.inl u))) (hu : u 0 = r.toInt64) (hn3 : 86 ≤ n3) (k : cp_V G m_law d 0 0 o h' n' z' 518 ((6, .int r) :: (5, .int 0) :: LH G bb i) [] h3 n3 z3) : cp_V G m_law d 0 0 o h' n' z' 355 (LH G bb i) [] h n z := by
  refine vv_aload_n (pc := 355) d_law_355 rfl ?_
  refine vv_aload_n (pc := 356) d_law_356 rfl ?_
  refine vv_iload (pc := 357) d_law_357 rfl ?_
  refine vv_iconst (pc := 359) (v := 1) d_law_359 rfl ?_
  refine vv_iadd (pc := 360) d_law_360 ?_
  refine vv_topi (y := nI (i + 1)) (nI_1 i) ?_
  refine vv_sld (pc := 361) hS d_law_361 (vp_in_nI (show i + 1 < L by omega) (by omega)) ?_
  refine vv_topi (y := xs (i + 1)) (congrArg xs (nI_clamp (by omega))) ?_
  refine vv_i2c (pc := 362) d_law_362 ?_
  refine vv_topi (y := c) hcx ?_
  refine vv_aload_n (pc := 363) d_law_363 rfl ?_
  refine vv_callSW (pc := 364) (As := [.ref (cp_b G + 0), .int c, .ref (cp_b G + 85)]) (hh := [(0, 9, 12, 13)]) d_law_364 hP cw_L_run ci_L_run (by decide) ⟨by decide, by decide⟩ cn_L_run ml_L_69.1 ml_L_69.2 (by omega) (Nat.le_of_ble_eq_true rfl) ?_
  refine vv_istore (pc := 367) d_law_367 (Nat.le_of_ble_eq_true rfl) ?_
  refine vv_aload_n (pc := 369) d_law_369 rfl ?_
  refine vv_aload_n (pc := 370) d_law_370 rfl ?_
  refine vv_iload (pc := 371) d_law_371 rfl ?_
  refine vv_iconst (pc := 373) (v := 1) d_law_373 rfl ?_
  refine vv_iadd (pc := 374) d_law_374 ?_
  refine vv_topi (y := nI (i + 1)) (nI_1 i) ?_
  refine vv_sld (pc := 375) hS d_law_375 (vp_in_nI (show i + 1 < L by omega) (by omega)) ?_
  refine vv_topi (y := xs (i + 1)) (congrArg xs (nI_clamp (by omega))) ?_
  refine vv_i2c (pc := 376) d_law_376 ?_
  refine vv_topi (y := c) hcx ?_
  refine vv_callV (pc := 377) (As := [.int c]) d_law_377 hM k_M_run ml_L_71.1 ml_L_71.2.1 ml_L_71.2.2.1 ml_L_71.2.2.2.1 ml_L_71.2.2.2.2 (by omega) H26 (by omega) (Nat.le_of_ble_eq_true rfl) ?_
  refine vv_istore (pc := 380) d_law_380 (Nat.le_of_ble_eq_true rfl) ?_
  refine vv_aload_n (pc := 382) d_law_382 rfl ?_
  refine vv_callV (pc := 383) (As := []) d_law_383 hT k_M_thrown ml_L_51.1 ml_L_51.2.1 ml_L_51.2.2.1 ml_L_51.2.2.2.1 ml_L_51.2.2.2.2 (by omega) H27 (by omega) (Nat.le_of_ble_eq_true rfl) ?_
  refine vv_iload (pc := 386) d_law_386 rfl ?_
  refine vv_icmp_eq (pc := 388) (tgt := 393) d_law_388 rfl (fun _ => ?_) (fun hc => absurd rfl hc)
  refine vv_iload (pc := 393) d_law_393 rfl ?_
  refine vv_if_ne (pc := 395) (tgt := 410) d_law_395 rfl (fun hc => absurd rfl hc) (fun _ => ?_)
  refine vv_aload_n (pc := 398) d_law_398 rfl ?_
  refine vv_iconst (pc := 399) (v := 0) d_law_399 rfl ?_
  refine vv_lald (pc := 400) d_law_400 (by omega) H85 (by unfold vp_in; decide +kernel) ?_
  refine vv_iload (pc := 401) d_law_401 rfl ?_
  refine vv_i2l (pc := 403) d_law_403 ?_
  refine vv_lcmp (pc := 404) d_law_404 ?_
  refine vv_topi (y := 0) (q_cmp hu) ?_
  refine vv_if_eq (pc := 405) (tgt := 410) d_law_405 rfl (fun _ => ?_) (fun hc => absurd rfl hc)
  exact vv_goto (pc := 410) (tgt := 518) d_law_410 rfl k
theorem q_law_7_thr {G : cp_G} {h h1 h2 h3 : Nat → cp_E} {n n1 n2 n3 z z1 z2 z3 d bb i L : Nat} {xs : Nat → Int32} {g26 g27 : Nat → Value} {c r kk : Int32} {u : Nat → Int64} {o : cp_O} {h' : Nat → cp_E} {n' z' : Nat} (hS : cp_scr G bb L xs) (hL : L ≤ 1024) (hi : i + 2 ≤ L) (hd : 1 ≤ d) (hcx : ((xs (i + 1)).toUInt32 % 65536).toInt32 = c) (hP : cp_CW G (d - 1) m_L_run [(0, 9, 12, 13)] [.ref (cp_b G + 0), .int c, .ref (cp_b G + 85)] h n z (some (.int kk)) h1 n1 z1) (hM : cp_C G (d - 1) m_M_run [.ref (cp_b G + 26), .int c] h1 n1 z1 (some (.int r)) h2 n2 z2) (H26 : h1 26 = .inr (11, g26)) (hn : 86 ≤ n) (hn1 : 86 ≤ n1) (hT : cp_C G (d - 1) m_M_thrown [.ref (cp_b G + 26)] h2 n2 z2 (some (.int kk)) h3 n3 z3) (H27 : h2 26 = .inr (11, g27)) (hn2 : 86 ≤ n2) (hk : ¬ kk = 0) (k : cp_V G m_law d 0 0 o h' n' z' 518 ((6, .int r) :: (5, .int kk) :: LH G bb i) [] h3 n3 z3) : cp_V G m_law d 0 0 o h' n' z' 355 (LH G bb i) [] h n z := by
  refine vv_aload_n (pc := 355) d_law_355 rfl ?_
  refine vv_aload_n (pc := 356) d_law_356 rfl ?_
  refine vv_iload (pc := 357) d_law_357 rfl ?_
  refine vv_iconst (pc := 359) (v := 1) d_law_359 rfl ?_
  refine vv_iadd (pc := 360) d_law_360 ?_
  refine vv_topi (y := nI (i + 1)) (nI_1 i) ?_
  refine vv_sld (pc := 361) hS d_law_361 (vp_in_nI (show i + 1 < L by omega) (by omega)) ?_
  refine vv_topi (y := xs (i + 1)) (congrArg xs (nI_clamp (by omega))) ?_
  refine vv_i2c (pc := 362) d_law_362 ?_
  refine vv_topi (y := c) hcx ?_
  refine vv_aload_n (pc := 363) d_law_363 rfl ?_
  refine vv_callSW (pc := 364) (As := [.ref (cp_b G + 0), .int c, .ref (cp_b G + 85)]) (hh := [(0, 9, 12, 13)]) d_law_364 hP cw_L_run ci_L_run (by decide) ⟨by decide, by decide⟩ cn_L_run ml_L_69.1 ml_L_69.2 (by omega) (Nat.le_of_ble_eq_true rfl) ?_
  refine vv_istore (pc := 367) d_law_367 (Nat.le_of_ble_eq_true rfl) ?_
  refine vv_aload_n (pc := 369) d_law_369 rfl ?_
  refine vv_aload_n (pc := 370) d_law_370 rfl ?_
  refine vv_iload (pc := 371) d_law_371 rfl ?_
  refine vv_iconst (pc := 373) (v := 1) d_law_373 rfl ?_
  refine vv_iadd (pc := 374) d_law_374 ?_
  refine vv_topi (y := nI (i + 1)) (nI_1 i) ?_
  refine vv_sld (pc := 375) hS d_law_375 (vp_in_nI (show i + 1 < L by omega) (by omega)) ?_
  refine vv_topi (y := xs (i + 1)) (congrArg xs (nI_clamp (by omega))) ?_
  refine vv_i2c (pc := 376) d_law_376 ?_
  refine vv_topi (y := c) hcx ?_
  refine vv_callV (pc := 377) (As := [.int c]) d_law_377 hM k_M_run ml_L_71.1 ml_L_71.2.1 ml_L_71.2.2.1 ml_L_71.2.2.2.1 ml_L_71.2.2.2.2 (by omega) H26 (by omega) (Nat.le_of_ble_eq_true rfl) ?_
  refine vv_istore (pc := 380) d_law_380 (Nat.le_of_ble_eq_true rfl) ?_
  refine vv_aload_n (pc := 382) d_law_382 rfl ?_
  refine vv_callV (pc := 383) (As := []) d_law_383 hT k_M_thrown ml_L_51.1 ml_L_51.2.1 ml_L_51.2.2.1 ml_L_51.2.2.2.1 ml_L_51.2.2.2.2 (by omega) H27 (by omega) (Nat.le_of_ble_eq_true rfl) ?_
  refine vv_iload (pc := 386) d_law_386 rfl ?_
  refine vv_icmp_eq (pc := 388) (tgt := 393) d_law_388 rfl (fun _ => ?_) (fun hc => absurd rfl hc)
  refine vv_iload (pc := 393) d_law_393 rfl ?_
  refine vv_if_ne (pc := 395) (tgt := 410) d_law_395 rfl (fun _ => ?_) (fun hc => absurd hc hk)
  exact vv_goto (pc := 410) (tgt := 518) d_law_410 rfl k
theorem q_disp_0 {G : cp_G} {h : Nat → cp_E} {n z d bb i L : Nat} {xs : Nat → Int32} {o : cp_O} {h' : Nat → cp_E} {n' z' : Nat} (hS : cp_scr G bb L xs) (hL : L ≤ 1024) (hi : i + 2 ≤ L) (hj : xs i &&& 15 = nI 0) (k : cp_V G m_law d 0 0 o h' n' z' 104 (LH G bb i) [] h n z) : cp_V G m_law d 0 0 o h' n' z' 23 (LH G bb i) [] h n z := by
  refine vv_iload (pc := 23) d_law_23 rfl ?_
  refine vv_aload_n (pc := 25) d_law_25 rfl ?_
  refine vv_slen (pc := 26) hS d_law_26 ?_
  refine vv_iconst (pc := 27) (v := 2) d_law_27 rfl ?_
  refine vv_isub (pc := 28) d_law_28 ?_
  refine vv_icmp_gt (pc := 29) (tgt := 524) d_law_29 rfl (fun hc => absurd hc ((q_end hL (by omega)).2 hi)) (fun _ => ?_)
  refine vv_aload_n (pc := 32) d_law_32 rfl ?_
  refine vv_iload (pc := 33) d_law_33 rfl ?_
  refine vv_sld (pc := 35) hS d_law_35 (vp_in_nI (show i < L by omega) (by omega)) ?_
  refine vv_topi (y := xs i) (congrArg xs (nI_clamp (by omega))) ?_
  refine vv_bipush (pc := 36) (v := 15) d_law_36 rfl ?_
  refine vv_iand (pc := 38) d_law_38 ?_
  refine vv_topi (y := nI 0) hj ?_
  exact vv_tableIn (pc := 39) (off := 65) (tgt := 104) d_law_39 (by decide +kernel) (by decide +kernel) (by decide +kernel) rfl k
theorem q_disp_1 {G : cp_G} {h : Nat → cp_E} {n z d bb i L : Nat} {xs : Nat → Int32} {o : cp_O} {h' : Nat → cp_E} {n' z' : Nat} (hS : cp_scr G bb L xs) (hL : L ≤ 1024) (hi : i + 2 ≤ L) (hj : xs i &&& 15 = nI 1) (k : cp_V G m_law d 0 0 o h' n' z' 131 (LH G bb i) [] h n z) : cp_V G m_law d 0 0 o h' n' z' 23 (LH G bb i) [] h n z := by
  refine vv_iload (pc := 23) d_law_23 rfl ?_
  refine vv_aload_n (pc := 25) d_law_25 rfl ?_
  refine vv_slen (pc := 26) hS d_law_26 ?_
  refine vv_iconst (pc := 27) (v := 2) d_law_27 rfl ?_
  refine vv_isub (pc := 28) d_law_28 ?_
  refine vv_icmp_gt (pc := 29) (tgt := 524) d_law_29 rfl (fun hc => absurd hc ((q_end hL (by omega)).2 hi)) (fun _ => ?_)
  refine vv_aload_n (pc := 32) d_law_32 rfl ?_
  refine vv_iload (pc := 33) d_law_33 rfl ?_
  refine vv_sld (pc := 35) hS d_law_35 (vp_in_nI (show i < L by omega) (by omega)) ?_
  refine vv_topi (y := xs i) (congrArg xs (nI_clamp (by omega))) ?_
  refine vv_bipush (pc := 36) (v := 15) d_law_36 rfl ?_
  refine vv_iand (pc := 38) d_law_38 ?_
  refine vv_topi (y := nI 1) hj ?_
  exact vv_tableIn (pc := 39) (off := 92) (tgt := 131) d_law_39 (by decide +kernel) (by decide +kernel) (by decide +kernel) rfl k
theorem q_disp_2 {G : cp_G} {h : Nat → cp_E} {n z d bb i L : Nat} {xs : Nat → Int32} {o : cp_O} {h' : Nat → cp_E} {n' z' : Nat} (hS : cp_scr G bb L xs) (hL : L ≤ 1024) (hi : i + 2 ≤ L) (hj : xs i &&& 15 = nI 2) (k : cp_V G m_law d 0 0 o h' n' z' 144 (LH G bb i) [] h n z) : cp_V G m_law d 0 0 o h' n' z' 23 (LH G bb i) [] h n z := by
  refine vv_iload (pc := 23) d_law_23 rfl ?_
  refine vv_aload_n (pc := 25) d_law_25 rfl ?_
  refine vv_slen (pc := 26) hS d_law_26 ?_
  refine vv_iconst (pc := 27) (v := 2) d_law_27 rfl ?_
  refine vv_isub (pc := 28) d_law_28 ?_
  refine vv_icmp_gt (pc := 29) (tgt := 524) d_law_29 rfl (fun hc => absurd hc ((q_end hL (by omega)).2 hi)) (fun _ => ?_)
  refine vv_aload_n (pc := 32) d_law_32 rfl ?_
  refine vv_iload (pc := 33) d_law_33 rfl ?_
  refine vv_sld (pc := 35) hS d_law_35 (vp_in_nI (show i < L by omega) (by omega)) ?_
  refine vv_topi (y := xs i) (congrArg xs (nI_clamp (by omega))) ?_
  refine vv_bipush (pc := 36) (v := 15) d_law_36 rfl ?_
  refine vv_iand (pc := 38) d_law_38 ?_
  refine vv_topi (y := nI 2) hj ?_
  exact vv_tableIn (pc := 39) (off := 105) (tgt := 144) d_law_39 (by decide +kernel) (by decide +kernel) (by decide +kernel) rfl k
theorem q_disp_3 {G : cp_G} {h : Nat → cp_E} {n z d bb i L : Nat} {xs : Nat → Int32} {o : cp_O} {h' : Nat → cp_E} {n' z' : Nat} (hS : cp_scr G bb L xs) (hL : L ≤ 1024) (hi : i + 2 ≤ L) (hj : xs i &&& 15 = nI 3) (k : cp_V G m_law d 0 0 o h' n' z' 202 (LH G bb i) [] h n z) : cp_V G m_law d 0 0 o h' n' z' 23 (LH G bb i) [] h n z := by
  refine vv_iload (pc := 23) d_law_23 rfl ?_
  refine vv_aload_n (pc := 25) d_law_25 rfl ?_
  refine vv_slen (pc := 26) hS d_law_26 ?_
  refine vv_iconst (pc := 27) (v := 2) d_law_27 rfl ?_
  refine vv_isub (pc := 28) d_law_28 ?_
  refine vv_icmp_gt (pc := 29) (tgt := 524) d_law_29 rfl (fun hc => absurd hc ((q_end hL (by omega)).2 hi)) (fun _ => ?_)
  refine vv_aload_n (pc := 32) d_law_32 rfl ?_
  refine vv_iload (pc := 33) d_law_33 rfl ?_
  refine vv_sld (pc := 35) hS d_law_35 (vp_in_nI (show i < L by omega) (by omega)) ?_
  refine vv_topi (y := xs i) (congrArg xs (nI_clamp (by omega))) ?_
  refine vv_bipush (pc := 36) (v := 15) d_law_36 rfl ?_
  refine vv_iand (pc := 38) d_law_38 ?_
  refine vv_topi (y := nI 3) hj ?_
  exact vv_tableIn (pc := 39) (off := 163) (tgt := 202) d_law_39 (by decide +kernel) (by decide +kernel) (by decide +kernel) rfl k
theorem q_disp_4 {G : cp_G} {h : Nat → cp_E} {n z d bb i L : Nat} {xs : Nat → Int32} {o : cp_O} {h' : Nat → cp_E} {n' z' : Nat} (hS : cp_scr G bb L xs) (hL : L ≤ 1024) (hi : i + 2 ≤ L) (hj : xs i &&& 15 = nI 4) (k : cp_V G m_law d 0 0 o h' n' z' 260 (LH G bb i) [] h n z) : cp_V G m_law d 0 0 o h' n' z' 23 (LH G bb i) [] h n z := by
  refine vv_iload (pc := 23) d_law_23 rfl ?_
  refine vv_aload_n (pc := 25) d_law_25 rfl ?_
  refine vv_slen (pc := 26) hS d_law_26 ?_
  refine vv_iconst (pc := 27) (v := 2) d_law_27 rfl ?_
  refine vv_isub (pc := 28) d_law_28 ?_
  refine vv_icmp_gt (pc := 29) (tgt := 524) d_law_29 rfl (fun hc => absurd hc ((q_end hL (by omega)).2 hi)) (fun _ => ?_)
  refine vv_aload_n (pc := 32) d_law_32 rfl ?_
  refine vv_iload (pc := 33) d_law_33 rfl ?_
  refine vv_sld (pc := 35) hS d_law_35 (vp_in_nI (show i < L by omega) (by omega)) ?_
  refine vv_topi (y := xs i) (congrArg xs (nI_clamp (by omega))) ?_
  refine vv_bipush (pc := 36) (v := 15) d_law_36 rfl ?_
  refine vv_iand (pc := 38) d_law_38 ?_
  refine vv_topi (y := nI 4) hj ?_
  exact vv_tableIn (pc := 39) (off := 221) (tgt := 260) d_law_39 (by decide +kernel) (by decide +kernel) (by decide +kernel) rfl k
theorem q_disp_5 {G : cp_G} {h : Nat → cp_E} {n z d bb i L : Nat} {xs : Nat → Int32} {o : cp_O} {h' : Nat → cp_E} {n' z' : Nat} (hS : cp_scr G bb L xs) (hL : L ≤ 1024) (hi : i + 2 ≤ L) (hj : xs i &&& 15 = nI 5) (k : cp_V G m_law d 0 0 o h' n' z' 273 (LH G bb i) [] h n z) : cp_V G m_law d 0 0 o h' n' z' 23 (LH G bb i) [] h n z := by
  refine vv_iload (pc := 23) d_law_23 rfl ?_
  refine vv_aload_n (pc := 25) d_law_25 rfl ?_
  refine vv_slen (pc := 26) hS d_law_26 ?_
  refine vv_iconst (pc := 27) (v := 2) d_law_27 rfl ?_
  refine vv_isub (pc := 28) d_law_28 ?_
  refine vv_icmp_gt (pc := 29) (tgt := 524) d_law_29 rfl (fun hc => absurd hc ((q_end hL (by omega)).2 hi)) (fun _ => ?_)
  refine vv_aload_n (pc := 32) d_law_32 rfl ?_
  refine vv_iload (pc := 33) d_law_33 rfl ?_
  refine vv_sld (pc := 35) hS d_law_35 (vp_in_nI (show i < L by omega) (by omega)) ?_
  refine vv_topi (y := xs i) (congrArg xs (nI_clamp (by omega))) ?_
  refine vv_bipush (pc := 36) (v := 15) d_law_36 rfl ?_
  refine vv_iand (pc := 38) d_law_38 ?_
  refine vv_topi (y := nI 5) hj ?_
  exact vv_tableIn (pc := 39) (off := 234) (tgt := 273) d_law_39 (by decide +kernel) (by decide +kernel) (by decide +kernel) rfl k
theorem q_disp_6 {G : cp_G} {h : Nat → cp_E} {n z d bb i L : Nat} {xs : Nat → Int32} {o : cp_O} {h' : Nat → cp_E} {n' z' : Nat} (hS : cp_scr G bb L xs) (hL : L ≤ 1024) (hi : i + 2 ≤ L) (hj : xs i &&& 15 = nI 6) (k : cp_V G m_law d 0 0 o h' n' z' 311 (LH G bb i) [] h n z) : cp_V G m_law d 0 0 o h' n' z' 23 (LH G bb i) [] h n z := by
  refine vv_iload (pc := 23) d_law_23 rfl ?_
  refine vv_aload_n (pc := 25) d_law_25 rfl ?_
  refine vv_slen (pc := 26) hS d_law_26 ?_
  refine vv_iconst (pc := 27) (v := 2) d_law_27 rfl ?_
  refine vv_isub (pc := 28) d_law_28 ?_
  refine vv_icmp_gt (pc := 29) (tgt := 524) d_law_29 rfl (fun hc => absurd hc ((q_end hL (by omega)).2 hi)) (fun _ => ?_)
  refine vv_aload_n (pc := 32) d_law_32 rfl ?_
  refine vv_iload (pc := 33) d_law_33 rfl ?_
  refine vv_sld (pc := 35) hS d_law_35 (vp_in_nI (show i < L by omega) (by omega)) ?_
  refine vv_topi (y := xs i) (congrArg xs (nI_clamp (by omega))) ?_
  refine vv_bipush (pc := 36) (v := 15) d_law_36 rfl ?_
  refine vv_iand (pc := 38) d_law_38 ?_
  refine vv_topi (y := nI 6) hj ?_
  exact vv_tableIn (pc := 39) (off := 272) (tgt := 311) d_law_39 (by decide +kernel) (by decide +kernel) (by decide +kernel) rfl k
theorem q_disp_7 {G : cp_G} {h : Nat → cp_E} {n z d bb i L : Nat} {xs : Nat → Int32} {o : cp_O} {h' : Nat → cp_E} {n' z' : Nat} (hS : cp_scr G bb L xs) (hL : L ≤ 1024) (hi : i + 2 ≤ L) (hj : xs i &&& 15 = nI 7) (k : cp_V G m_law d 0 0 o h' n' z' 355 (LH G bb i) [] h n z) : cp_V G m_law d 0 0 o h' n' z' 23 (LH G bb i) [] h n z := by
  refine vv_iload (pc := 23) d_law_23 rfl ?_
  refine vv_aload_n (pc := 25) d_law_25 rfl ?_
  refine vv_slen (pc := 26) hS d_law_26 ?_
  refine vv_iconst (pc := 27) (v := 2) d_law_27 rfl ?_
  refine vv_isub (pc := 28) d_law_28 ?_
  refine vv_icmp_gt (pc := 29) (tgt := 524) d_law_29 rfl (fun hc => absurd hc ((q_end hL (by omega)).2 hi)) (fun _ => ?_)
  refine vv_aload_n (pc := 32) d_law_32 rfl ?_
  refine vv_iload (pc := 33) d_law_33 rfl ?_
  refine vv_sld (pc := 35) hS d_law_35 (vp_in_nI (show i < L by omega) (by omega)) ?_
  refine vv_topi (y := xs i) (congrArg xs (nI_clamp (by omega))) ?_
  refine vv_bipush (pc := 36) (v := 15) d_law_36 rfl ?_
  refine vv_iand (pc := 38) d_law_38 ?_
  refine vv_topi (y := nI 7) hj ?_
  exact vv_tableIn (pc := 39) (off := 316) (tgt := 355) d_law_39 (by decide +kernel) (by decide +kernel) (by decide +kernel) rfl k
theorem q_disp_8 {G : cp_G} {h : Nat → cp_E} {n z d bb i L : Nat} {xs : Nat → Int32} {o : cp_O} {h' : Nat → cp_E} {n' z' : Nat} (hS : cp_scr G bb L xs) (hL : L ≤ 1024) (hi : i + 2 ≤ L) (hj : xs i &&& 15 = nI 8) (k : cp_V G m_law d 0 0 o h' n' z' 413 (LH G bb i) [] h n z) : cp_V G m_law d 0 0 o h' n' z' 23 (LH G bb i) [] h n z := by
  refine vv_iload (pc := 23) d_law_23 rfl ?_
  refine vv_aload_n (pc := 25) d_law_25 rfl ?_
  refine vv_slen (pc := 26) hS d_law_26 ?_
  refine vv_iconst (pc := 27) (v := 2) d_law_27 rfl ?_
  refine vv_isub (pc := 28) d_law_28 ?_
  refine vv_icmp_gt (pc := 29) (tgt := 524) d_law_29 rfl (fun hc => absurd hc ((q_end hL (by omega)).2 hi)) (fun _ => ?_)
  refine vv_aload_n (pc := 32) d_law_32 rfl ?_
  refine vv_iload (pc := 33) d_law_33 rfl ?_
  refine vv_sld (pc := 35) hS d_law_35 (vp_in_nI (show i < L by omega) (by omega)) ?_
  refine vv_topi (y := xs i) (congrArg xs (nI_clamp (by omega))) ?_
  refine vv_bipush (pc := 36) (v := 15) d_law_36 rfl ?_
  refine vv_iand (pc := 38) d_law_38 ?_
  refine vv_topi (y := nI 8) hj ?_
  exact vv_tableIn (pc := 39) (off := 374) (tgt := 413) d_law_39 (by decide +kernel) (by decide +kernel) (by decide +kernel) rfl k
theorem q_disp_9 {G : cp_G} {h : Nat → cp_E} {n z d bb i L : Nat} {xs : Nat → Int32} {o : cp_O} {h' : Nat → cp_E} {n' z' : Nat} (hS : cp_scr G bb L xs) (hL : L ≤ 1024) (hi : i + 2 ≤ L) (hj : xs i &&& 15 = nI 9) (k : cp_V G m_law d 0 0 o h' n' z' 426 (LH G bb i) [] h n z) : cp_V G m_law d 0 0 o h' n' z' 23 (LH G bb i) [] h n z := by
  refine vv_iload (pc := 23) d_law_23 rfl ?_
  refine vv_aload_n (pc := 25) d_law_25 rfl ?_
  refine vv_slen (pc := 26) hS d_law_26 ?_
  refine vv_iconst (pc := 27) (v := 2) d_law_27 rfl ?_
  refine vv_isub (pc := 28) d_law_28 ?_
  refine vv_icmp_gt (pc := 29) (tgt := 524) d_law_29 rfl (fun hc => absurd hc ((q_end hL (by omega)).2 hi)) (fun _ => ?_)
  refine vv_aload_n (pc := 32) d_law_32 rfl ?_
  refine vv_iload (pc := 33) d_law_33 rfl ?_
  refine vv_sld (pc := 35) hS d_law_35 (vp_in_nI (show i < L by omega) (by omega)) ?_
  refine vv_topi (y := xs i) (congrArg xs (nI_clamp (by omega))) ?_
  refine vv_bipush (pc := 36) (v := 15) d_law_36 rfl ?_
  refine vv_iand (pc := 38) d_law_38 ?_
  refine vv_topi (y := nI 9) hj ?_
  exact vv_tableIn (pc := 39) (off := 387) (tgt := 426) d_law_39 (by decide +kernel) (by decide +kernel) (by decide +kernel) rfl k
theorem q_disp_10 {G : cp_G} {h : Nat → cp_E} {n z d bb i L : Nat} {xs : Nat → Int32} {o : cp_O} {h' : Nat → cp_E} {n' z' : Nat} (hS : cp_scr G bb L xs) (hL : L ≤ 1024) (hi : i + 2 ≤ L) (hj : xs i &&& 15 = nI 10) (k : cp_V G m_law d 0 0 o h' n' z' 453 (LH G bb i) [] h n z) : cp_V G m_law d 0 0 o h' n' z' 23 (LH G bb i) [] h n z := by
  refine vv_iload (pc := 23) d_law_23 rfl ?_
  refine vv_aload_n (pc := 25) d_law_25 rfl ?_
  refine vv_slen (pc := 26) hS d_law_26 ?_
  refine vv_iconst (pc := 27) (v := 2) d_law_27 rfl ?_
  refine vv_isub (pc := 28) d_law_28 ?_
  refine vv_icmp_gt (pc := 29) (tgt := 524) d_law_29 rfl (fun hc => absurd hc ((q_end hL (by omega)).2 hi)) (fun _ => ?_)
  refine vv_aload_n (pc := 32) d_law_32 rfl ?_
  refine vv_iload (pc := 33) d_law_33 rfl ?_
  refine vv_sld (pc := 35) hS d_law_35 (vp_in_nI (show i < L by omega) (by omega)) ?_
  refine vv_topi (y := xs i) (congrArg xs (nI_clamp (by omega))) ?_
  refine vv_bipush (pc := 36) (v := 15) d_law_36 rfl ?_
  refine vv_iand (pc := 38) d_law_38 ?_
  refine vv_topi (y := nI 10) hj ?_
  exact vv_tableIn (pc := 39) (off := 414) (tgt := 453) d_law_39 (by decide +kernel) (by decide +kernel) (by decide +kernel) rfl k
theorem q_disp_11 {G : cp_G} {h : Nat → cp_E} {n z d bb i L : Nat} {xs : Nat → Int32} {o : cp_O} {h' : Nat → cp_E} {n' z' : Nat} (hS : cp_scr G bb L xs) (hL : L ≤ 1024) (hi : i + 2 ≤ L) (hj : xs i &&& 15 = nI 11) (k : cp_V G m_law d 0 0 o h' n' z' 480 (LH G bb i) [] h n z) : cp_V G m_law d 0 0 o h' n' z' 23 (LH G bb i) [] h n z := by
  refine vv_iload (pc := 23) d_law_23 rfl ?_
  refine vv_aload_n (pc := 25) d_law_25 rfl ?_
  refine vv_slen (pc := 26) hS d_law_26 ?_
  refine vv_iconst (pc := 27) (v := 2) d_law_27 rfl ?_
  refine vv_isub (pc := 28) d_law_28 ?_
  refine vv_icmp_gt (pc := 29) (tgt := 524) d_law_29 rfl (fun hc => absurd hc ((q_end hL (by omega)).2 hi)) (fun _ => ?_)
  refine vv_aload_n (pc := 32) d_law_32 rfl ?_
  refine vv_iload (pc := 33) d_law_33 rfl ?_
  refine vv_sld (pc := 35) hS d_law_35 (vp_in_nI (show i < L by omega) (by omega)) ?_
  refine vv_topi (y := xs i) (congrArg xs (nI_clamp (by omega))) ?_
  refine vv_bipush (pc := 36) (v := 15) d_law_36 rfl ?_
  refine vv_iand (pc := 38) d_law_38 ?_
  refine vv_topi (y := nI 11) hj ?_
  exact vv_tableIn (pc := 39) (off := 441) (tgt := 480) d_law_39 (by decide +kernel) (by decide +kernel) (by decide +kernel) rfl k
theorem q_disp_12 {G : cp_G} {h : Nat → cp_E} {n z d bb i L : Nat} {xs : Nat → Int32} {o : cp_O} {h' : Nat → cp_E} {n' z' : Nat} (hS : cp_scr G bb L xs) (hL : L ≤ 1024) (hi : i + 2 ≤ L) (hj : xs i &&& 15 = nI 12) (k : cp_V G m_law d 0 0 o h' n' z' 493 (LH G bb i) [] h n z) : cp_V G m_law d 0 0 o h' n' z' 23 (LH G bb i) [] h n z := by
  refine vv_iload (pc := 23) d_law_23 rfl ?_
  refine vv_aload_n (pc := 25) d_law_25 rfl ?_
  refine vv_slen (pc := 26) hS d_law_26 ?_
  refine vv_iconst (pc := 27) (v := 2) d_law_27 rfl ?_
  refine vv_isub (pc := 28) d_law_28 ?_
  refine vv_icmp_gt (pc := 29) (tgt := 524) d_law_29 rfl (fun hc => absurd hc ((q_end hL (by omega)).2 hi)) (fun _ => ?_)
  refine vv_aload_n (pc := 32) d_law_32 rfl ?_
  refine vv_iload (pc := 33) d_law_33 rfl ?_
  refine vv_sld (pc := 35) hS d_law_35 (vp_in_nI (show i < L by omega) (by omega)) ?_
  refine vv_topi (y := xs i) (congrArg xs (nI_clamp (by omega))) ?_
  refine vv_bipush (pc := 36) (v := 15) d_law_36 rfl ?_
  refine vv_iand (pc := 38) d_law_38 ?_
  refine vv_topi (y := nI 12) hj ?_
  exact vv_tableIn (pc := 39) (off := 454) (tgt := 493) d_law_39 (by decide +kernel) (by decide +kernel) (by decide +kernel) rfl k
theorem q_disp_13 {G : cp_G} {h : Nat → cp_E} {n z d bb i L : Nat} {xs : Nat → Int32} {o : cp_O} {h' : Nat → cp_E} {n' z' : Nat} (hS : cp_scr G bb L xs) (hL : L ≤ 1024) (hi : i + 2 ≤ L) (hj : xs i &&& 15 = nI 13) (k : cp_V G m_law d 0 0 o h' n' z' 518 (LH G bb i) [] h n z) : cp_V G m_law d 0 0 o h' n' z' 23 (LH G bb i) [] h n z := by
  refine vv_iload (pc := 23) d_law_23 rfl ?_
  refine vv_aload_n (pc := 25) d_law_25 rfl ?_
  refine vv_slen (pc := 26) hS d_law_26 ?_
  refine vv_iconst (pc := 27) (v := 2) d_law_27 rfl ?_
  refine vv_isub (pc := 28) d_law_28 ?_
  refine vv_icmp_gt (pc := 29) (tgt := 524) d_law_29 rfl (fun hc => absurd hc ((q_end hL (by omega)).2 hi)) (fun _ => ?_)
  refine vv_aload_n (pc := 32) d_law_32 rfl ?_
  refine vv_iload (pc := 33) d_law_33 rfl ?_
  refine vv_sld (pc := 35) hS d_law_35 (vp_in_nI (show i < L by omega) (by omega)) ?_
  refine vv_topi (y := xs i) (congrArg xs (nI_clamp (by omega))) ?_
  refine vv_bipush (pc := 36) (v := 15) d_law_36 rfl ?_
  refine vv_iand (pc := 38) d_law_38 ?_
  refine vv_topi (y := nI 13) hj ?_
  exact vv_tableOut (pc := 39) (tgt := 518) d_law_39 (by decide +kernel) rfl k
theorem q_disp_14 {G : cp_G} {h : Nat → cp_E} {n z d bb i L : Nat} {xs : Nat → Int32} {o : cp_O} {h' : Nat → cp_E} {n' z' : Nat} (hS : cp_scr G bb L xs) (hL : L ≤ 1024) (hi : i + 2 ≤ L) (hj : xs i &&& 15 = nI 14) (k : cp_V G m_law d 0 0 o h' n' z' 518 (LH G bb i) [] h n z) : cp_V G m_law d 0 0 o h' n' z' 23 (LH G bb i) [] h n z := by
  refine vv_iload (pc := 23) d_law_23 rfl ?_
  refine vv_aload_n (pc := 25) d_law_25 rfl ?_
  refine vv_slen (pc := 26) hS d_law_26 ?_
  refine vv_iconst (pc := 27) (v := 2) d_law_27 rfl ?_
  refine vv_isub (pc := 28) d_law_28 ?_
  refine vv_icmp_gt (pc := 29) (tgt := 524) d_law_29 rfl (fun hc => absurd hc ((q_end hL (by omega)).2 hi)) (fun _ => ?_)
  refine vv_aload_n (pc := 32) d_law_32 rfl ?_
  refine vv_iload (pc := 33) d_law_33 rfl ?_
  refine vv_sld (pc := 35) hS d_law_35 (vp_in_nI (show i < L by omega) (by omega)) ?_
  refine vv_topi (y := xs i) (congrArg xs (nI_clamp (by omega))) ?_
  refine vv_bipush (pc := 36) (v := 15) d_law_36 rfl ?_
  refine vv_iand (pc := 38) d_law_38 ?_
  refine vv_topi (y := nI 14) hj ?_
  exact vv_tableOut (pc := 39) (tgt := 518) d_law_39 (by decide +kernel) rfl k
theorem q_disp_15 {G : cp_G} {h : Nat → cp_E} {n z d bb i L : Nat} {xs : Nat → Int32} {o : cp_O} {h' : Nat → cp_E} {n' z' : Nat} (hS : cp_scr G bb L xs) (hL : L ≤ 1024) (hi : i + 2 ≤ L) (hj : xs i &&& 15 = nI 15) (k : cp_V G m_law d 0 0 o h' n' z' 518 (LH G bb i) [] h n z) : cp_V G m_law d 0 0 o h' n' z' 23 (LH G bb i) [] h n z := by
  refine vv_iload (pc := 23) d_law_23 rfl ?_
  refine vv_aload_n (pc := 25) d_law_25 rfl ?_
  refine vv_slen (pc := 26) hS d_law_26 ?_
  refine vv_iconst (pc := 27) (v := 2) d_law_27 rfl ?_
  refine vv_isub (pc := 28) d_law_28 ?_
  refine vv_icmp_gt (pc := 29) (tgt := 524) d_law_29 rfl (fun hc => absurd hc ((q_end hL (by omega)).2 hi)) (fun _ => ?_)
  refine vv_aload_n (pc := 32) d_law_32 rfl ?_
  refine vv_iload (pc := 33) d_law_33 rfl ?_
  refine vv_sld (pc := 35) hS d_law_35 (vp_in_nI (show i < L by omega) (by omega)) ?_
  refine vv_topi (y := xs i) (congrArg xs (nI_clamp (by omega))) ?_
  refine vv_bipush (pc := 36) (v := 15) d_law_36 rfl ?_
  refine vv_iand (pc := 38) d_law_38 ?_
  refine vv_topi (y := nI 15) hj ?_
  exact vv_tableOut (pc := 39) (tgt := 518) d_law_39 (by decide +kernel) rfl k
