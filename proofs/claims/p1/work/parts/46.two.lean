/-- what a fresh pair of objects looks like, as far as the first call asks -/
def cp_fresh (G : cp_G) (h : Nat → cp_E) : Prop := ∃ (g0 g3 g6 g7 g14 g15 g17 g19 g21 g23 g26 : Nat → Value) (f1 f27 f30 f49 f50 f51 f63 f64 : Nat → Int32), h 0 = .inr (0, g0) ∧ g0 0 = .ref (cp_b G + 1) ∧ g0 1 = .int 0 ∧ g0 11 = .null ∧ g0 3 = .int 0 ∧ g0 4 = .ref (cp_b G + 3) ∧ g0 5 = .ref (cp_b G + 6) ∧ g0 6 = .ref (cp_b G + 14) ∧ g0 7 = .ref (cp_b G + 21) ∧ g0 8 = .ref (cp_b G + 23) ∧ h 1 = .inl (cp_cC G, 80, .inl f1) ∧ h 3 = .inr (1, g3) ∧ g3 0 = .ref (cp_b G + 4) ∧ g3 2 = .int 0 ∧ h 4 = .inl (cp_cE G, 26, .inr (.inr (.inr (.inr (fun _ => none))))) ∧ h 6 = .inr (2, g6) ∧ g6 0 = .ref (cp_b G + 7) ∧ h 7 = .inr (3, g7) ∧ g7 1 = .int 0 ∧ h 14 = .inr (4, g14) ∧ g14 0 = .ref (cp_b G + 15) ∧ g14 1 = .ref (cp_b G + 17) ∧ g14 2 = .ref (cp_b G + 19) ∧ h 15 = .inr (3, g15) ∧ g15 1 = .int 0 ∧ h 17 = .inr (3, g17) ∧ g17 1 = .int 0 ∧ h 19 = .inr (3, g19) ∧ g19 1 = .int 0 ∧ h 21 = .inr (5, g21) ∧ h 23 = .inr (6, g23) ∧ g23 4 = .int 0 ∧ h 26 = .inr (11, g26) ∧ g26 1 = .int 0 ∧ g26 14 = .int 0 ∧ g26 16 = .int 0 ∧ g26 2 = .ref (cp_b G + 27) ∧ g26 23 = .int 0 ∧ g26 3 = .int 0 ∧ g26 30 = .ref (cp_b G + 49) ∧ g26 31 = .ref (cp_b G + 50) ∧ g26 32 = .ref (cp_b G + 51) ∧ g26 34 = .int 0 ∧ g26 50 = .ref (cp_b G + 63) ∧ g26 51 = .ref (cp_b G + 64) ∧ g26 6 = .ref (cp_b G + 30) ∧ g26 60 = .int 0 ∧ g26 79 = .int 0 ∧ h 27 = .inl (cp_cI G, 80, .inl f27) ∧ h 30 = .inl (cp_cI G, 26, .inl f30) ∧ f30 = (fun _ => 0) ∧ h 49 = .inl (cp_cI G, 400, .inl f49) ∧ h 50 = .inl (cp_cI G, 400, .inl f50) ∧ h 51 = .inl (cp_cI G, 400, .inl f51) ∧ h 63 = .inl (cp_cI G, 260, .inl f63) ∧ h 64 = .inl (cp_cI G, 26, .inl f64) ∧ h 85 = .inl (cp_cL G, 1, .inr (.inl (fun _ => 0)))
set_option maxRecDepth 1000000 in
set_option maxHeartbeats 8000000 in
theorem p_init {G : cp_G} {d bb : Nat} (hd : 9 ≤ d) : ∃ hF, cp_fresh G hF ∧ ∀ (o : cp_O) (h' : Nat → cp_E) (n' z' : Nat), cp_V G m_law d 0 0 o h' n' z' 23 [(4, .int 0), (3, .ref (cp_b G + 85)), (2, .ref (cp_b G + 26)), (1, .ref (cp_b G + 0)), (0, .ref bb)] [] hF 86 49035 → cp_V G m_law d 0 0 o h' n' z' 0 [(0, .ref bb)] [] (fun _ => cp_junk) 0 0 := by
  refine Exists.intro ?hF (And.intro ?f ?w)
  case w =>
    intro o h' n' z' k
    refine vv_new (pc := 0) (N := 13) d_law_0 cp_ok0 cl_L_8 rfl ?_
    refine vv_dup (pc := 3) d_law_3 rfl ?_
    refine vv_callI (pc := 4) (As := []) d_law_4 (x_P_init (d := d - 1) (by omega) rfl) k_P_init ml_L_31.1 ml_L_31.2.1 ml_L_31.2.2.1 ml_L_31.2.2.2 (by omega) (Nat.le_of_ble_eq_true rfl) ?_
    refine vv_astore_n (pc := 7) d_law_7 cp_isr_r (Nat.le_of_ble_eq_true rfl) ?_
    refine vv_new (pc := 8) (N := 86) d_law_8 cp_ok11 cl_L_32 rfl ?_
    refine vv_dup (pc := 11) d_law_11 rfl ?_
    refine vv_callI (pc := 12) (As := []) d_law_12 (x_M_init (d := d - 1) (by omega) rfl) k_M_init ml_L_34.1 ml_L_34.2.1 ml_L_34.2.2.1 ml_L_34.2.2.2 (by omega) (Nat.le_of_ble_eq_true rfl) ?_
    refine vv_astore_n (pc := 15) d_law_15 cp_isr_r (Nat.le_of_ble_eq_true rfl) ?_
    refine vv_iconst (pc := 16) (v := 1) d_law_16 rfl ?_
    refine vv_newaL (pc := 17) (N := 1) d_law_17 cp_arL (by decide +kernel) (by decide +kernel) (by decide +kernel) ?_
    refine vv_astore_n (pc := 19) d_law_19 cp_isr_r (Nat.le_of_ble_eq_true rfl) ?_
    refine vv_iconst (pc := 20) (v := 0) d_law_20 rfl ?_
    refine vv_istore (pc := 21) d_law_21 (Nat.le_of_ble_eq_true rfl) ?_
    exact k
  case f =>
    exact ⟨_, _, _, _, _, _, _, _, _, _, _, _, _, _, _, _, _, _, _, rfl, rfl, rfl, rfl, rfl, rfl, rfl, rfl, rfl, rfl, rfl, rfl, rfl, rfl, rfl, rfl, rfl, rfl, rfl, rfl, rfl, rfl, rfl, rfl, rfl, rfl, rfl, rfl, rfl, rfl, rfl, rfl, rfl, rfl, rfl, rfl, rfl, rfl, rfl, rfl, rfl, rfl, rfl, rfl, rfl, rfl, rfl, rfl, rfl, rfl, rfl, rfl, rfl, rfl, rfl, rfl, rfl⟩
theorem p_disp_0 {G : cp_G} {h : Nat → cp_E} {z d bb : Nat} {xs : Nat → Int32} {o : cp_O} {h' : Nat → cp_E} {n' z' : Nat} (hS : cp_scr G bb 2 xs) (hj : xs 0 &&& 15 = nI 0) (k : cp_V G m_law d 0 0 o h' n' z' 104 [(4, .int 0), (3, .ref (cp_b G + 85)), (2, .ref (cp_b G + 26)), (1, .ref (cp_b G + 0)), (0, .ref bb)] [] h 86 z) : cp_V G m_law d 0 0 o h' n' z' 23 [(4, .int 0), (3, .ref (cp_b G + 85)), (2, .ref (cp_b G + 26)), (1, .ref (cp_b G + 0)), (0, .ref bb)] [] h 86 z := by
  refine vv_iload (pc := 23) d_law_23 rfl ?_
  refine vv_aload_n (pc := 25) d_law_25 rfl ?_
  refine vv_slen (pc := 26) hS d_law_26 ?_
  refine vv_iconst (pc := 27) (v := 2) d_law_27 rfl ?_
  refine vv_isub (pc := 28) d_law_28 ?_
  refine vv_icmp_gt (pc := 29) (tgt := 524) d_law_29 rfl (fun hc => absurd hc (by decide +kernel)) (fun _ => ?_)
  refine vv_aload_n (pc := 32) d_law_32 rfl ?_
  refine vv_iload (pc := 33) d_law_33 rfl ?_
  refine vv_sld (pc := 35) hS d_law_35 (by unfold vp_in; decide +kernel) ?_
  refine vv_topi (y := xs 0) (congrArg xs (by decide +kernel)) ?_
  refine vv_bipush (pc := 36) (v := 15) d_law_36 rfl ?_
  refine vv_iand (pc := 38) d_law_38 ?_
  refine vv_topi (y := nI 0) hj ?_
  exact vv_tableIn (pc := 39) (off := 65) (tgt := 104) d_law_39 (by decide +kernel) (by decide +kernel) (by decide +kernel) rfl k
theorem p_disp_1 {G : cp_G} {h : Nat → cp_E} {z d bb : Nat} {xs : Nat → Int32} {o : cp_O} {h' : Nat → cp_E} {n' z' : Nat} (hS : cp_scr G bb 2 xs) (hj : xs 0 &&& 15 = nI 1) (k : cp_V G m_law d 0 0 o h' n' z' 131 [(4, .int 0), (3, .ref (cp_b G + 85)), (2, .ref (cp_b G + 26)), (1, .ref (cp_b G + 0)), (0, .ref bb)] [] h 86 z) : cp_V G m_law d 0 0 o h' n' z' 23 [(4, .int 0), (3, .ref (cp_b G + 85)), (2, .ref (cp_b G + 26)), (1, .ref (cp_b G + 0)), (0, .ref bb)] [] h 86 z := by
  refine vv_iload (pc := 23) d_law_23 rfl ?_
  refine vv_aload_n (pc := 25) d_law_25 rfl ?_
  refine vv_slen (pc := 26) hS d_law_26 ?_
  refine vv_iconst (pc := 27) (v := 2) d_law_27 rfl ?_
  refine vv_isub (pc := 28) d_law_28 ?_
  refine vv_icmp_gt (pc := 29) (tgt := 524) d_law_29 rfl (fun hc => absurd hc (by decide +kernel)) (fun _ => ?_)
  refine vv_aload_n (pc := 32) d_law_32 rfl ?_
  refine vv_iload (pc := 33) d_law_33 rfl ?_
  refine vv_sld (pc := 35) hS d_law_35 (by unfold vp_in; decide +kernel) ?_
  refine vv_topi (y := xs 0) (congrArg xs (by decide +kernel)) ?_
  refine vv_bipush (pc := 36) (v := 15) d_law_36 rfl ?_
  refine vv_iand (pc := 38) d_law_38 ?_
  refine vv_topi (y := nI 1) hj ?_
  exact vv_tableIn (pc := 39) (off := 92) (tgt := 131) d_law_39 (by decide +kernel) (by decide +kernel) (by decide +kernel) rfl k
theorem p_disp_2 {G : cp_G} {h : Nat → cp_E} {z d bb : Nat} {xs : Nat → Int32} {o : cp_O} {h' : Nat → cp_E} {n' z' : Nat} (hS : cp_scr G bb 2 xs) (hj : xs 0 &&& 15 = nI 2) (k : cp_V G m_law d 0 0 o h' n' z' 144 [(4, .int 0), (3, .ref (cp_b G + 85)), (2, .ref (cp_b G + 26)), (1, .ref (cp_b G + 0)), (0, .ref bb)] [] h 86 z) : cp_V G m_law d 0 0 o h' n' z' 23 [(4, .int 0), (3, .ref (cp_b G + 85)), (2, .ref (cp_b G + 26)), (1, .ref (cp_b G + 0)), (0, .ref bb)] [] h 86 z := by
  refine vv_iload (pc := 23) d_law_23 rfl ?_
  refine vv_aload_n (pc := 25) d_law_25 rfl ?_
  refine vv_slen (pc := 26) hS d_law_26 ?_
  refine vv_iconst (pc := 27) (v := 2) d_law_27 rfl ?_
  refine vv_isub (pc := 28) d_law_28 ?_
  refine vv_icmp_gt (pc := 29) (tgt := 524) d_law_29 rfl (fun hc => absurd hc (by decide +kernel)) (fun _ => ?_)
  refine vv_aload_n (pc := 32) d_law_32 rfl ?_
  refine vv_iload (pc := 33) d_law_33 rfl ?_
  refine vv_sld (pc := 35) hS d_law_35 (by unfold vp_in; decide +kernel) ?_
  refine vv_topi (y := xs 0) (congrArg xs (by decide +kernel)) ?_
  refine vv_bipush (pc := 36) (v := 15) d_law_36 rfl ?_
  refine vv_iand (pc := 38) d_law_38 ?_
  refine vv_topi (y := nI 2) hj ?_
  exact vv_tableIn (pc := 39) (off := 105) (tgt := 144) d_law_39 (by decide +kernel) (by decide +kernel) (by decide +kernel) rfl k
theorem p_disp_3 {G : cp_G} {h : Nat → cp_E} {z d bb : Nat} {xs : Nat → Int32} {o : cp_O} {h' : Nat → cp_E} {n' z' : Nat} (hS : cp_scr G bb 2 xs) (hj : xs 0 &&& 15 = nI 3) (k : cp_V G m_law d 0 0 o h' n' z' 202 [(4, .int 0), (3, .ref (cp_b G + 85)), (2, .ref (cp_b G + 26)), (1, .ref (cp_b G + 0)), (0, .ref bb)] [] h 86 z) : cp_V G m_law d 0 0 o h' n' z' 23 [(4, .int 0), (3, .ref (cp_b G + 85)), (2, .ref (cp_b G + 26)), (1, .ref (cp_b G + 0)), (0, .ref bb)] [] h 86 z := by
  refine vv_iload (pc := 23) d_law_23 rfl ?_
  refine vv_aload_n (pc := 25) d_law_25 rfl ?_
  refine vv_slen (pc := 26) hS d_law_26 ?_
  refine vv_iconst (pc := 27) (v := 2) d_law_27 rfl ?_
  refine vv_isub (pc := 28) d_law_28 ?_
  refine vv_icmp_gt (pc := 29) (tgt := 524) d_law_29 rfl (fun hc => absurd hc (by decide +kernel)) (fun _ => ?_)
  refine vv_aload_n (pc := 32) d_law_32 rfl ?_
  refine vv_iload (pc := 33) d_law_33 rfl ?_
  refine vv_sld (pc := 35) hS d_law_35 (by unfold vp_in; decide +kernel) ?_
  refine vv_topi (y := xs 0) (congrArg xs (by decide +kernel)) ?_
  refine vv_bipush (pc := 36) (v := 15) d_law_36 rfl ?_
  refine vv_iand (pc := 38) d_law_38 ?_
  refine vv_topi (y := nI 3) hj ?_
  exact vv_tableIn (pc := 39) (off := 163) (tgt := 202) d_law_39 (by decide +kernel) (by decide +kernel) (by decide +kernel) rfl k
theorem p_disp_4 {G : cp_G} {h : Nat → cp_E} {z d bb : Nat} {xs : Nat → Int32} {o : cp_O} {h' : Nat → cp_E} {n' z' : Nat} (hS : cp_scr G bb 2 xs) (hj : xs 0 &&& 15 = nI 4) (k : cp_V G m_law d 0 0 o h' n' z' 260 [(4, .int 0), (3, .ref (cp_b G + 85)), (2, .ref (cp_b G + 26)), (1, .ref (cp_b G + 0)), (0, .ref bb)] [] h 86 z) : cp_V G m_law d 0 0 o h' n' z' 23 [(4, .int 0), (3, .ref (cp_b G + 85)), (2, .ref (cp_b G + 26)), (1, .ref (cp_b G + 0)), (0, .ref bb)] [] h 86 z := by
  refine vv_iload (pc := 23) d_law_23 rfl ?_
  refine vv_aload_n (pc := 25) d_law_25 rfl ?_
  refine vv_slen (pc := 26) hS d_law_26 ?_
  refine vv_iconst (pc := 27) (v := 2) d_law_27 rfl ?_
  refine vv_isub (pc := 28) d_law_28 ?_
  refine vv_icmp_gt (pc := 29) (tgt := 524) d_law_29 rfl (fun hc => absurd hc (by decide +kernel)) (fun _ => ?_)
  refine vv_aload_n (pc := 32) d_law_32 rfl ?_
  refine vv_iload (pc := 33) d_law_33 rfl ?_
  refine vv_sld (pc := 35) hS d_law_35 (by unfold vp_in; decide +kernel) ?_
  refine vv_topi (y := xs 0) (congrArg xs (by decide +kernel)) ?_
  refine vv_bipush (pc := 36) (v := 15) d_law_36 rfl ?_
  refine vv_iand (pc := 38) d_law_38 ?_
  refine vv_topi (y := nI 4) hj ?_
  exact vv_tableIn (pc := 39) (off := 221) (tgt := 260) d_law_39 (by decide +kernel) (by decide +kernel) (by decide +kernel) rfl k
theorem p_disp_5 {G : cp_G} {h : Nat → cp_E} {z d bb : Nat} {xs : Nat → Int32} {o : cp_O} {h' : Nat → cp_E} {n' z' : Nat} (hS : cp_scr G bb 2 xs) (hj : xs 0 &&& 15 = nI 5) (k : cp_V G m_law d 0 0 o h' n' z' 273 [(4, .int 0), (3, .ref (cp_b G + 85)), (2, .ref (cp_b G + 26)), (1, .ref (cp_b G + 0)), (0, .ref bb)] [] h 86 z) : cp_V G m_law d 0 0 o h' n' z' 23 [(4, .int 0), (3, .ref (cp_b G + 85)), (2, .ref (cp_b G + 26)), (1, .ref (cp_b G + 0)), (0, .ref bb)] [] h 86 z := by
  refine vv_iload (pc := 23) d_law_23 rfl ?_
  refine vv_aload_n (pc := 25) d_law_25 rfl ?_
  refine vv_slen (pc := 26) hS d_law_26 ?_
  refine vv_iconst (pc := 27) (v := 2) d_law_27 rfl ?_
  refine vv_isub (pc := 28) d_law_28 ?_
  refine vv_icmp_gt (pc := 29) (tgt := 524) d_law_29 rfl (fun hc => absurd hc (by decide +kernel)) (fun _ => ?_)
  refine vv_aload_n (pc := 32) d_law_32 rfl ?_
  refine vv_iload (pc := 33) d_law_33 rfl ?_
  refine vv_sld (pc := 35) hS d_law_35 (by unfold vp_in; decide +kernel) ?_
  refine vv_topi (y := xs 0) (congrArg xs (by decide +kernel)) ?_
  refine vv_bipush (pc := 36) (v := 15) d_law_36 rfl ?_
  refine vv_iand (pc := 38) d_law_38 ?_
  refine vv_topi (y := nI 5) hj ?_
  exact vv_tableIn (pc := 39) (off := 234) (tgt := 273) d_law_39 (by decide +kernel) (by decide +kernel) (by decide +kernel) rfl k
theorem p_disp_6 {G : cp_G} {h : Nat → cp_E} {z d bb : Nat} {xs : Nat → Int32} {o : cp_O} {h' : Nat → cp_E} {n' z' : Nat} (hS : cp_scr G bb 2 xs) (hj : xs 0 &&& 15 = nI 6) (k : cp_V G m_law d 0 0 o h' n' z' 311 [(4, .int 0), (3, .ref (cp_b G + 85)), (2, .ref (cp_b G + 26)), (1, .ref (cp_b G + 0)), (0, .ref bb)] [] h 86 z) : cp_V G m_law d 0 0 o h' n' z' 23 [(4, .int 0), (3, .ref (cp_b G + 85)), (2, .ref (cp_b G + 26)), (1, .ref (cp_b G + 0)), (0, .ref bb)] [] h 86 z := by
  refine vv_iload (pc := 23) d_law_23 rfl ?_
  refine vv_aload_n (pc := 25) d_law_25 rfl ?_
  refine vv_slen (pc := 26) hS d_law_26 ?_
  refine vv_iconst (pc := 27) (v := 2) d_law_27 rfl ?_
  refine vv_isub (pc := 28) d_law_28 ?_
  refine vv_icmp_gt (pc := 29) (tgt := 524) d_law_29 rfl (fun hc => absurd hc (by decide +kernel)) (fun _ => ?_)
  refine vv_aload_n (pc := 32) d_law_32 rfl ?_
  refine vv_iload (pc := 33) d_law_33 rfl ?_
  refine vv_sld (pc := 35) hS d_law_35 (by unfold vp_in; decide +kernel) ?_
  refine vv_topi (y := xs 0) (congrArg xs (by decide +kernel)) ?_
  refine vv_bipush (pc := 36) (v := 15) d_law_36 rfl ?_
  refine vv_iand (pc := 38) d_law_38 ?_
  refine vv_topi (y := nI 6) hj ?_
  exact vv_tableIn (pc := 39) (off := 272) (tgt := 311) d_law_39 (by decide +kernel) (by decide +kernel) (by decide +kernel) rfl k
theorem p_disp_7 {G : cp_G} {h : Nat → cp_E} {z d bb : Nat} {xs : Nat → Int32} {o : cp_O} {h' : Nat → cp_E} {n' z' : Nat} (hS : cp_scr G bb 2 xs) (hj : xs 0 &&& 15 = nI 7) (k : cp_V G m_law d 0 0 o h' n' z' 355 [(4, .int 0), (3, .ref (cp_b G + 85)), (2, .ref (cp_b G + 26)), (1, .ref (cp_b G + 0)), (0, .ref bb)] [] h 86 z) : cp_V G m_law d 0 0 o h' n' z' 23 [(4, .int 0), (3, .ref (cp_b G + 85)), (2, .ref (cp_b G + 26)), (1, .ref (cp_b G + 0)), (0, .ref bb)] [] h 86 z := by
  refine vv_iload (pc := 23) d_law_23 rfl ?_
  refine vv_aload_n (pc := 25) d_law_25 rfl ?_
  refine vv_slen (pc := 26) hS d_law_26 ?_
  refine vv_iconst (pc := 27) (v := 2) d_law_27 rfl ?_
  refine vv_isub (pc := 28) d_law_28 ?_
  refine vv_icmp_gt (pc := 29) (tgt := 524) d_law_29 rfl (fun hc => absurd hc (by decide +kernel)) (fun _ => ?_)
  refine vv_aload_n (pc := 32) d_law_32 rfl ?_
  refine vv_iload (pc := 33) d_law_33 rfl ?_
  refine vv_sld (pc := 35) hS d_law_35 (by unfold vp_in; decide +kernel) ?_
  refine vv_topi (y := xs 0) (congrArg xs (by decide +kernel)) ?_
  refine vv_bipush (pc := 36) (v := 15) d_law_36 rfl ?_
  refine vv_iand (pc := 38) d_law_38 ?_
  refine vv_topi (y := nI 7) hj ?_
  exact vv_tableIn (pc := 39) (off := 316) (tgt := 355) d_law_39 (by decide +kernel) (by decide +kernel) (by decide +kernel) rfl k
theorem p_disp_8 {G : cp_G} {h : Nat → cp_E} {z d bb : Nat} {xs : Nat → Int32} {o : cp_O} {h' : Nat → cp_E} {n' z' : Nat} (hS : cp_scr G bb 2 xs) (hj : xs 0 &&& 15 = nI 8) (k : cp_V G m_law d 0 0 o h' n' z' 413 [(4, .int 0), (3, .ref (cp_b G + 85)), (2, .ref (cp_b G + 26)), (1, .ref (cp_b G + 0)), (0, .ref bb)] [] h 86 z) : cp_V G m_law d 0 0 o h' n' z' 23 [(4, .int 0), (3, .ref (cp_b G + 85)), (2, .ref (cp_b G + 26)), (1, .ref (cp_b G + 0)), (0, .ref bb)] [] h 86 z := by
  refine vv_iload (pc := 23) d_law_23 rfl ?_
  refine vv_aload_n (pc := 25) d_law_25 rfl ?_
  refine vv_slen (pc := 26) hS d_law_26 ?_
  refine vv_iconst (pc := 27) (v := 2) d_law_27 rfl ?_
  refine vv_isub (pc := 28) d_law_28 ?_
  refine vv_icmp_gt (pc := 29) (tgt := 524) d_law_29 rfl (fun hc => absurd hc (by decide +kernel)) (fun _ => ?_)
  refine vv_aload_n (pc := 32) d_law_32 rfl ?_
  refine vv_iload (pc := 33) d_law_33 rfl ?_
  refine vv_sld (pc := 35) hS d_law_35 (by unfold vp_in; decide +kernel) ?_
  refine vv_topi (y := xs 0) (congrArg xs (by decide +kernel)) ?_
  refine vv_bipush (pc := 36) (v := 15) d_law_36 rfl ?_
  refine vv_iand (pc := 38) d_law_38 ?_
  refine vv_topi (y := nI 8) hj ?_
  exact vv_tableIn (pc := 39) (off := 374) (tgt := 413) d_law_39 (by decide +kernel) (by decide +kernel) (by decide +kernel) rfl k
theorem p_disp_9 {G : cp_G} {h : Nat → cp_E} {z d bb : Nat} {xs : Nat → Int32} {o : cp_O} {h' : Nat → cp_E} {n' z' : Nat} (hS : cp_scr G bb 2 xs) (hj : xs 0 &&& 15 = nI 9) (k : cp_V G m_law d 0 0 o h' n' z' 426 [(4, .int 0), (3, .ref (cp_b G + 85)), (2, .ref (cp_b G + 26)), (1, .ref (cp_b G + 0)), (0, .ref bb)] [] h 86 z) : cp_V G m_law d 0 0 o h' n' z' 23 [(4, .int 0), (3, .ref (cp_b G + 85)), (2, .ref (cp_b G + 26)), (1, .ref (cp_b G + 0)), (0, .ref bb)] [] h 86 z := by
  refine vv_iload (pc := 23) d_law_23 rfl ?_
  refine vv_aload_n (pc := 25) d_law_25 rfl ?_
  refine vv_slen (pc := 26) hS d_law_26 ?_
  refine vv_iconst (pc := 27) (v := 2) d_law_27 rfl ?_
  refine vv_isub (pc := 28) d_law_28 ?_
  refine vv_icmp_gt (pc := 29) (tgt := 524) d_law_29 rfl (fun hc => absurd hc (by decide +kernel)) (fun _ => ?_)
  refine vv_aload_n (pc := 32) d_law_32 rfl ?_
  refine vv_iload (pc := 33) d_law_33 rfl ?_
  refine vv_sld (pc := 35) hS d_law_35 (by unfold vp_in; decide +kernel) ?_
  refine vv_topi (y := xs 0) (congrArg xs (by decide +kernel)) ?_
  refine vv_bipush (pc := 36) (v := 15) d_law_36 rfl ?_
  refine vv_iand (pc := 38) d_law_38 ?_
  refine vv_topi (y := nI 9) hj ?_
  exact vv_tableIn (pc := 39) (off := 387) (tgt := 426) d_law_39 (by decide +kernel) (by decide +kernel) (by decide +kernel) rfl k
theorem p_disp_10 {G : cp_G} {h : Nat → cp_E} {z d bb : Nat} {xs : Nat → Int32} {o : cp_O} {h' : Nat → cp_E} {n' z' : Nat} (hS : cp_scr G bb 2 xs) (hj : xs 0 &&& 15 = nI 10) (k : cp_V G m_law d 0 0 o h' n' z' 453 [(4, .int 0), (3, .ref (cp_b G + 85)), (2, .ref (cp_b G + 26)), (1, .ref (cp_b G + 0)), (0, .ref bb)] [] h 86 z) : cp_V G m_law d 0 0 o h' n' z' 23 [(4, .int 0), (3, .ref (cp_b G + 85)), (2, .ref (cp_b G + 26)), (1, .ref (cp_b G + 0)), (0, .ref bb)] [] h 86 z := by
  refine vv_iload (pc := 23) d_law_23 rfl ?_
  refine vv_aload_n (pc := 25) d_law_25 rfl ?_
  refine vv_slen (pc := 26) hS d_law_26 ?_
  refine vv_iconst (pc := 27) (v := 2) d_law_27 rfl ?_
  refine vv_isub (pc := 28) d_law_28 ?_
  refine vv_icmp_gt (pc := 29) (tgt := 524) d_law_29 rfl (fun hc => absurd hc (by decide +kernel)) (fun _ => ?_)
  refine vv_aload_n (pc := 32) d_law_32 rfl ?_
  refine vv_iload (pc := 33) d_law_33 rfl ?_
  refine vv_sld (pc := 35) hS d_law_35 (by unfold vp_in; decide +kernel) ?_
  refine vv_topi (y := xs 0) (congrArg xs (by decide +kernel)) ?_
  refine vv_bipush (pc := 36) (v := 15) d_law_36 rfl ?_
  refine vv_iand (pc := 38) d_law_38 ?_
  refine vv_topi (y := nI 10) hj ?_
  exact vv_tableIn (pc := 39) (off := 414) (tgt := 453) d_law_39 (by decide +kernel) (by decide +kernel) (by decide +kernel) rfl k
theorem p_disp_11 {G : cp_G} {h : Nat → cp_E} {z d bb : Nat} {xs : Nat → Int32} {o : cp_O} {h' : Nat → cp_E} {n' z' : Nat} (hS : cp_scr G bb 2 xs) (hj : xs 0 &&& 15 = nI 11) (k : cp_V G m_law d 0 0 o h' n' z' 480 [(4, .int 0), (3, .ref (cp_b G + 85)), (2, .ref (cp_b G + 26)), (1, .ref (cp_b G + 0)), (0, .ref bb)] [] h 86 z) : cp_V G m_law d 0 0 o h' n' z' 23 [(4, .int 0), (3, .ref (cp_b G + 85)), (2, .ref (cp_b G + 26)), (1, .ref (cp_b G + 0)), (0, .ref bb)] [] h 86 z := by
  refine vv_iload (pc := 23) d_law_23 rfl ?_
  refine vv_aload_n (pc := 25) d_law_25 rfl ?_
  refine vv_slen (pc := 26) hS d_law_26 ?_
  refine vv_iconst (pc := 27) (v := 2) d_law_27 rfl ?_
  refine vv_isub (pc := 28) d_law_28 ?_
  refine vv_icmp_gt (pc := 29) (tgt := 524) d_law_29 rfl (fun hc => absurd hc (by decide +kernel)) (fun _ => ?_)
  refine vv_aload_n (pc := 32) d_law_32 rfl ?_
  refine vv_iload (pc := 33) d_law_33 rfl ?_
  refine vv_sld (pc := 35) hS d_law_35 (by unfold vp_in; decide +kernel) ?_
  refine vv_topi (y := xs 0) (congrArg xs (by decide +kernel)) ?_
  refine vv_bipush (pc := 36) (v := 15) d_law_36 rfl ?_
  refine vv_iand (pc := 38) d_law_38 ?_
  refine vv_topi (y := nI 11) hj ?_
  exact vv_tableIn (pc := 39) (off := 441) (tgt := 480) d_law_39 (by decide +kernel) (by decide +kernel) (by decide +kernel) rfl k
theorem p_disp_12 {G : cp_G} {h : Nat → cp_E} {z d bb : Nat} {xs : Nat → Int32} {o : cp_O} {h' : Nat → cp_E} {n' z' : Nat} (hS : cp_scr G bb 2 xs) (hj : xs 0 &&& 15 = nI 12) (k : cp_V G m_law d 0 0 o h' n' z' 493 [(4, .int 0), (3, .ref (cp_b G + 85)), (2, .ref (cp_b G + 26)), (1, .ref (cp_b G + 0)), (0, .ref bb)] [] h 86 z) : cp_V G m_law d 0 0 o h' n' z' 23 [(4, .int 0), (3, .ref (cp_b G + 85)), (2, .ref (cp_b G + 26)), (1, .ref (cp_b G + 0)), (0, .ref bb)] [] h 86 z := by
  refine vv_iload (pc := 23) d_law_23 rfl ?_
  refine vv_aload_n (pc := 25) d_law_25 rfl ?_
  refine vv_slen (pc := 26) hS d_law_26 ?_
  refine vv_iconst (pc := 27) (v := 2) d_law_27 rfl ?_
  refine vv_isub (pc := 28) d_law_28 ?_
  refine vv_icmp_gt (pc := 29) (tgt := 524) d_law_29 rfl (fun hc => absurd hc (by decide +kernel)) (fun _ => ?_)
  refine vv_aload_n (pc := 32) d_law_32 rfl ?_
  refine vv_iload (pc := 33) d_law_33 rfl ?_
  refine vv_sld (pc := 35) hS d_law_35 (by unfold vp_in; decide +kernel) ?_
  refine vv_topi (y := xs 0) (congrArg xs (by decide +kernel)) ?_
  refine vv_bipush (pc := 36) (v := 15) d_law_36 rfl ?_
  refine vv_iand (pc := 38) d_law_38 ?_
  refine vv_topi (y := nI 12) hj ?_
  exact vv_tableIn (pc := 39) (off := 454) (tgt := 493) d_law_39 (by decide +kernel) (by decide +kernel) (by decide +kernel) rfl k
theorem p_disp_13 {G : cp_G} {h : Nat → cp_E} {z d bb : Nat} {xs : Nat → Int32} {o : cp_O} {h' : Nat → cp_E} {n' z' : Nat} (hS : cp_scr G bb 2 xs) (hj : xs 0 &&& 15 = nI 13) (k : cp_V G m_law d 0 0 o h' n' z' 518 [(4, .int 0), (3, .ref (cp_b G + 85)), (2, .ref (cp_b G + 26)), (1, .ref (cp_b G + 0)), (0, .ref bb)] [] h 86 z) : cp_V G m_law d 0 0 o h' n' z' 23 [(4, .int 0), (3, .ref (cp_b G + 85)), (2, .ref (cp_b G + 26)), (1, .ref (cp_b G + 0)), (0, .ref bb)] [] h 86 z := by
  refine vv_iload (pc := 23) d_law_23 rfl ?_
  refine vv_aload_n (pc := 25) d_law_25 rfl ?_
  refine vv_slen (pc := 26) hS d_law_26 ?_
  refine vv_iconst (pc := 27) (v := 2) d_law_27 rfl ?_
  refine vv_isub (pc := 28) d_law_28 ?_
  refine vv_icmp_gt (pc := 29) (tgt := 524) d_law_29 rfl (fun hc => absurd hc (by decide +kernel)) (fun _ => ?_)
  refine vv_aload_n (pc := 32) d_law_32 rfl ?_
  refine vv_iload (pc := 33) d_law_33 rfl ?_
  refine vv_sld (pc := 35) hS d_law_35 (by unfold vp_in; decide +kernel) ?_
  refine vv_topi (y := xs 0) (congrArg xs (by decide +kernel)) ?_
  refine vv_bipush (pc := 36) (v := 15) d_law_36 rfl ?_
  refine vv_iand (pc := 38) d_law_38 ?_
  refine vv_topi (y := nI 13) hj ?_
  exact vv_tableOut (pc := 39) (tgt := 518) d_law_39 (by decide +kernel) rfl k
theorem p_disp_14 {G : cp_G} {h : Nat → cp_E} {z d bb : Nat} {xs : Nat → Int32} {o : cp_O} {h' : Nat → cp_E} {n' z' : Nat} (hS : cp_scr G bb 2 xs) (hj : xs 0 &&& 15 = nI 14) (k : cp_V G m_law d 0 0 o h' n' z' 518 [(4, .int 0), (3, .ref (cp_b G + 85)), (2, .ref (cp_b G + 26)), (1, .ref (cp_b G + 0)), (0, .ref bb)] [] h 86 z) : cp_V G m_law d 0 0 o h' n' z' 23 [(4, .int 0), (3, .ref (cp_b G + 85)), (2, .ref (cp_b G + 26)), (1, .ref (cp_b G + 0)), (0, .ref bb)] [] h 86 z := by
  refine vv_iload (pc := 23) d_law_23 rfl ?_
  refine vv_aload_n (pc := 25) d_law_25 rfl ?_
  refine vv_slen (pc := 26) hS d_law_26 ?_
  refine vv_iconst (pc := 27) (v := 2) d_law_27 rfl ?_
  refine vv_isub (pc := 28) d_law_28 ?_
  refine vv_icmp_gt (pc := 29) (tgt := 524) d_law_29 rfl (fun hc => absurd hc (by decide +kernel)) (fun _ => ?_)
  refine vv_aload_n (pc := 32) d_law_32 rfl ?_
  refine vv_iload (pc := 33) d_law_33 rfl ?_
  refine vv_sld (pc := 35) hS d_law_35 (by unfold vp_in; decide +kernel) ?_
  refine vv_topi (y := xs 0) (congrArg xs (by decide +kernel)) ?_
  refine vv_bipush (pc := 36) (v := 15) d_law_36 rfl ?_
  refine vv_iand (pc := 38) d_law_38 ?_
  refine vv_topi (y := nI 14) hj ?_
  exact vv_tableOut (pc := 39) (tgt := 518) d_law_39 (by decide +kernel) rfl k
theorem p_disp_15 {G : cp_G} {h : Nat → cp_E} {z d bb : Nat} {xs : Nat → Int32} {o : cp_O} {h' : Nat → cp_E} {n' z' : Nat} (hS : cp_scr G bb 2 xs) (hj : xs 0 &&& 15 = nI 15) (k : cp_V G m_law d 0 0 o h' n' z' 518 [(4, .int 0), (3, .ref (cp_b G + 85)), (2, .ref (cp_b G + 26)), (1, .ref (cp_b G + 0)), (0, .ref bb)] [] h 86 z) : cp_V G m_law d 0 0 o h' n' z' 23 [(4, .int 0), (3, .ref (cp_b G + 85)), (2, .ref (cp_b G + 26)), (1, .ref (cp_b G + 0)), (0, .ref bb)] [] h 86 z := by
  refine vv_iload (pc := 23) d_law_23 rfl ?_
  refine vv_aload_n (pc := 25) d_law_25 rfl ?_
  refine vv_slen (pc := 26) hS d_law_26 ?_
  refine vv_iconst (pc := 27) (v := 2) d_law_27 rfl ?_
  refine vv_isub (pc := 28) d_law_28 ?_
  refine vv_icmp_gt (pc := 29) (tgt := 524) d_law_29 rfl (fun hc => absurd hc (by decide +kernel)) (fun _ => ?_)
  refine vv_aload_n (pc := 32) d_law_32 rfl ?_
  refine vv_iload (pc := 33) d_law_33 rfl ?_
  refine vv_sld (pc := 35) hS d_law_35 (by unfold vp_in; decide +kernel) ?_
  refine vv_topi (y := xs 0) (congrArg xs (by decide +kernel)) ?_
  refine vv_bipush (pc := 36) (v := 15) d_law_36 rfl ?_
  refine vv_iand (pc := 38) d_law_38 ?_
  refine vv_topi (y := nI 15) hj ?_
  exact vv_tableOut (pc := 39) (tgt := 518) d_law_39 (by decide +kernel) rfl k
theorem p_short_0 {G : cp_G} {h : Nat → cp_E} {z d bb : Nat} {xs : Nat → Int32} (hS : cp_scr G bb 0 xs) : cp_V G m_law d 0 0 (.inl (some (.int 1))) h 86 z 23 [(4, .int 0), (3, .ref (cp_b G + 85)), (2, .ref (cp_b G + 26)), (1, .ref (cp_b G + 0)), (0, .ref bb)] [] h 86 z := by
  refine vv_iload (pc := 23) d_law_23 rfl ?_
  refine vv_aload_n (pc := 25) d_law_25 rfl ?_
  refine vv_slen (pc := 26) hS d_law_26 ?_
  refine vv_iconst (pc := 27) (v := 2) d_law_27 rfl ?_
  refine vv_isub (pc := 28) d_law_28 ?_
  refine vv_icmp_gt (pc := 29) (tgt := 524) d_law_29 rfl (fun _ => ?_) (fun hc => absurd (by decide +kernel) hc)
  refine vv_iconst (pc := 524) (v := 1) d_law_524 rfl ?_
  exact vv_zret (pc := 525) d_law_525 rfl rfl
theorem p_short_1 {G : cp_G} {h : Nat → cp_E} {z d bb : Nat} {xs : Nat → Int32} (hS : cp_scr G bb 1 xs) : cp_V G m_law d 0 0 (.inl (some (.int 1))) h 86 z 23 [(4, .int 0), (3, .ref (cp_b G + 85)), (2, .ref (cp_b G + 26)), (1, .ref (cp_b G + 0)), (0, .ref bb)] [] h 86 z := by
  refine vv_iload (pc := 23) d_law_23 rfl ?_
  refine vv_aload_n (pc := 25) d_law_25 rfl ?_
  refine vv_slen (pc := 26) hS d_law_26 ?_
  refine vv_iconst (pc := 27) (v := 2) d_law_27 rfl ?_
  refine vv_isub (pc := 28) d_law_28 ?_
  refine vv_icmp_gt (pc := 29) (tgt := 524) d_law_29 rfl (fun _ => ?_) (fun hc => absurd (by decide +kernel) hc)
  refine vv_iconst (pc := 524) (v := 1) d_law_524 rfl ?_
  exact vv_zret (pc := 525) d_law_525 rfl rfl
/-- the law on a script of two ints -/
theorem p_two {G : cp_G} {h : Nat → cp_E} {bb : Nat} {xs : Nat → Int32} (hS : cp_scr G bb 2 xs) (hF : cp_fresh G h) : ∃ (h' : Nat → cp_E) (n' z' : Nat), n' ≤ 100 ∧ z' ≤ 50000 ∧ cp_V G m_law 20 0 0 (.inl (some (.int 1))) h' n' z' 23 [(4, .int 0), (3, .ref (cp_b G + 85)), (2, .ref (cp_b G + 26)), (1, .ref (cp_b G + 0)), (0, .ref bb)] [] h 86 49035 := by
  obtain ⟨g0, g3, g6, g7, g14, g15, g17, g19, g21, g23, g26, f1, f27, f30, f49, f50, f51, f63, f64, H0, E0_0, E0_1, E0_11, E0_3, E0_4, E0_5, E0_6, E0_7, E0_8, H1, H3, E3_0, E3_2, H4, H6, E6_0, H7, E7_1, H14, E14_0, E14_1, E14_2, H15, E15_1, H17, E17_1, H19, E19_1, H21, H23, E23_4, H26, E26_1, E26_14, E26_16, E26_2, E26_23, E26_3, E26_30, E26_31, E26_32, E26_34, E26_50, E26_51, E26_6, E26_60, E26_79, H27, H30, Z30, H49, H50, H51, H63, H64, H85⟩ := hF
  obtain ⟨j, hj1, hj⟩ := pk_andE (xs 0) (m := 15) 4 (by decide +kernel)
  obtain ⟨k, hk, hcx⟩ : ∃ k : Nat, k < 65536 ∧ ((xs 1).toUInt32 % 65536).toInt32 = nI k := ⟨_, Nat.mod_lt _ (by decide), pk_char (xs 1)⟩
  have hL := cp_letter hk
  have hj2 : j = 0 ∨ j = 1 ∨ j = 2 ∨ j = 3 ∨ j = 4 ∨ j = 5 ∨ j = 6 ∨ j = 7 ∨ j = 8 ∨ j = 9 ∨ j = 10 ∨ j = 11 ∨ j = 12 ∨ j = 13 ∨ j = 14 ∨ j = 15 := by omega
  rcases hj2 with rfl | rfl | rfl | rfl | rfl | rfl | rfl | rfl | rfl | rfl | rfl | rfl | rfl | rfl | rfl | rfl
  · by_cases t1 : nI k < 32
    · exact ⟨_, _, _, by decide, by decide, p_disp_0 hS hj (p_law_0_lo t1 hS hcx (by decide) H0 H26)⟩
    · by_cases t2 : 126 < nI k
      · exact ⟨_, _, _, by decide, by decide, p_disp_0 hS hj (p_law_0_hi t1 t2 hS hcx (by decide) H0 H26)⟩
      · exact ⟨_, _, _, by decide, by decide, p_disp_0 hS hj (p_law_0_ok t1 t2 hS hcx (by decide) H0 E0_1 E0_0 H1 H26 E26_1 E26_2 H27)⟩
  · exact ⟨_, _, _, by decide, by decide, p_disp_1 hS hj (p_law_1 hS (by decide) H0 E0_1 H26 E26_1)⟩
  · rcases hL with ⟨t1, t2⟩ | ⟨t1, t2, t3, t4⟩ | ⟨t1, t2, t3, t4, t5⟩
    · exact ⟨_, _, _, by decide, by decide, p_disp_2 hS hj (p_law_2_lo t1 t2 hS hcx (by decide) H0 H26)⟩
    · exact ⟨_, _, _, by decide, by decide, p_disp_2 hS hj (p_law_2_hi t1 t2 t3 t4 hS hcx (by decide) H0 H26)⟩
    · exact ⟨_, _, _, by decide, by decide, p_disp_2 hS hj (p_law_2_le t1 t2 t3 t4 t5 hS hcx (by decide) H0 E0_4 H3 E3_0 H4 E0_7 E0_0 E0_1 H21 H1 E0_5 H6 E6_0 H7 E7_1 E0_6 H14 E14_0 H15 E15_1 E14_1 H17 E17_1 E14_2 H19 E19_1 H85 H26 E26_6 H30 Z30 E26_16 E26_1 E26_23 E26_30 H49 E26_31 H50 E26_32 H51 E26_34)⟩
  · rcases hL with ⟨t1, t2⟩ | ⟨t1, t2, t3, t4⟩ | ⟨t1, t2, t3, t4, t5⟩
    · exact ⟨_, _, _, by decide, by decide, p_disp_3 hS hj (p_law_3_lo t1 t2 hS hcx (by decide) H0 H26)⟩
    · exact ⟨_, _, _, by decide, by decide, p_disp_3 hS hj (p_law_3_hi t1 t2 t3 t4 hS hcx (by decide) H0 H26)⟩
    · exact ⟨_, _, _, by decide, by decide, p_disp_3 hS hj (p_law_3_le t1 t2 t3 t4 t5 hS hcx (by decide) H0 E0_4 H3 E3_0 H4 E0_7 E0_0 E0_1 H21 H1 E0_5 H6 E6_0 H7 E7_1 E0_6 H14 E14_0 H15 E15_1 E14_1 H17 E17_1 E14_2 H19 E19_1 H85 H26 E26_6 H30 Z30 E26_16 E26_1 E26_23 E26_30 H49 E26_31 H50 E26_32 H51 E26_34)⟩
  · exact ⟨_, _, _, by decide, by decide, p_disp_4 hS hj (p_law_4 hS (by decide) H0 E0_7 E0_0 E0_1 H21 H1 E0_5 H6 E6_0 H7 E7_1 E0_6 H14 E14_0 H15 E15_1 E14_1 H17 E17_1 E14_2 H19 E19_1 E0_8 H23 H26 E26_16 E26_1 E26_23 E26_30 H49 E26_31 H50 E26_32 H51 E26_50 H63 E26_51 H64)⟩
  · rcases hL with ⟨t1, t2⟩ | ⟨t1, t2, t3, t4⟩ | ⟨t1, t2, t3, t4, t5⟩
    · exact ⟨_, _, _, by decide, by decide, p_disp_5 hS hj (p_law_5_lo t1 t2 hS hcx (by decide) H0 H26)⟩
    · exact ⟨_, _, _, by decide, by decide, p_disp_5 hS hj (p_law_5_hi t1 t2 t3 t4 hS hcx (by decide) H0 H26)⟩
    · exact ⟨_, _, _, by decide, by decide, p_disp_5 hS hj (p_law_5_le t1 t2 t3 t4 t5 hS hcx (by decide) H0 E0_4 H3 E3_0 H4 E0_11 H26 E26_6 H30 Z30 E26_79)⟩
  · exact ⟨_, _, _, by decide, by decide, p_disp_6 hS hj (p_law_6 hS (by decide) H0 E0_4 H3 E3_2 H26 E26_14)⟩
  · rcases hL with ⟨t1, t2⟩ | ⟨t1, t2, t3, t4⟩ | ⟨t1, t2, t3, t4, t5⟩
    · exact ⟨_, _, _, by decide, by decide, p_disp_7 hS hj (p_law_7_lo t1 t2 hS hcx (by decide) H0 E0_4 H3 H26)⟩
    · exact ⟨_, _, _, by decide, by decide, p_disp_7 hS hj (p_law_7_hi t1 t2 t3 t4 hS hcx (by decide) H0 E0_4 H3 H26)⟩
    · exact ⟨_, _, _, by decide, by decide, p_disp_7 hS hj (p_law_7_le t1 t2 t3 t4 t5 hS hcx (by decide) H0 E0_4 H3 E3_0 H4 H26 E26_6 H30 Z30)⟩
  · exact ⟨_, _, _, by decide, by decide, p_disp_8 hS hj (p_law_8 hS (by decide) H0 E0_8 H23 E23_4 H26 E26_60)⟩
  · rcases hL with ⟨t1, t2⟩ | ⟨t1, t2, t3, t4⟩ | ⟨t1, t2, t3, t4, t5⟩
    · exact ⟨_, _, _, by decide, by decide, p_disp_9 hS hj (p_law_9_lo t1 t2 hS hcx (by decide) H0 E0_4 H3 H26)⟩
    · exact ⟨_, _, _, by decide, by decide, p_disp_9 hS hj (p_law_9_hi t1 t2 t3 t4 hS hcx (by decide) H0 E0_4 H3 H26)⟩
    · exact ⟨_, _, _, by decide, by decide, p_disp_9 hS hj (p_law_9_le t1 t2 t3 t4 t5 hS hcx (by decide) H0 E0_4 H3 E3_0 H4 H26 E26_6 H30 Z30)⟩
  · rcases hL with ⟨t1, t2⟩ | ⟨t1, t2, t3, t4⟩ | ⟨t1, t2, t3, t4, t5⟩
    · exact ⟨_, _, _, by decide, by decide, p_disp_10 hS hj (p_law_10_lo t1 t2 hS hcx (by decide) H0 E0_4 H3 H26)⟩
    · exact ⟨_, _, _, by decide, by decide, p_disp_10 hS hj (p_law_10_hi t1 t2 t3 t4 hS hcx (by decide) H0 E0_4 H3 H26)⟩
    · exact ⟨_, _, _, by decide, by decide, p_disp_10 hS hj (p_law_10_le t1 t2 t3 t4 t5 hS hcx (by decide) H0 E0_4 H3 E3_0 H4 H26 E26_6 H30 Z30)⟩
  · exact ⟨_, _, _, by decide, by decide, p_disp_11 hS hj (p_law_11 hS (by decide) H0 E0_3 H26 E26_3)⟩
  · by_cases t1 : xs 1 < 0
    · exact ⟨_, _, _, by decide, by decide, p_disp_12 hS hj (p_law_12_lo t1 hS rfl (by decide) H0 H26)⟩
    · exact ⟨_, _, _, by decide, by decide, p_disp_12 hS hj (p_law_12_ge t1 (Int32.not_lt.mp t1) hS rfl (by decide) H0 E0_3 H26 E26_3)⟩
  · exact ⟨_, _, _, by decide, by decide, p_disp_13 hS hj (p_law_13 hS (by decide) )⟩
  · exact ⟨_, _, _, by decide, by decide, p_disp_14 hS hj (p_law_13 hS (by decide) )⟩
  · exact ⟨_, _, _, by decide, by decide, p_disp_15 hS hj (p_law_13 hS (by decide) )⟩
/-- THE LAW ON SCRIPTS OF AT MOST TWO INTS -/
theorem cp_LAW_two (G : cp_G) (b L : Nat) (xs : Nat → Int32) (hK : cp_K0 G) (hS : cp_scr G b L xs) (hL : L ≤ 2) : ∃ (d : Nat) (h' : Nat → cp_E) (n' z' : Nat), d ≤ 1312 ∧ n' ≤ 1000 ∧ z' ≤ 60000 ∧ cp_V G m_law d 0 0 (.inl (some (.int 1))) h' n' z' 0 [(0, .ref b)] [] (fun _ => cp_junk) 0 0 := by
  obtain ⟨hF, hfr, hst⟩ := p_init (G := G) (d := 20) (bb := b) (by decide)
  have h3 : L = 0 ∨ L = 1 ∨ L = 2 := by omega
  rcases h3 with rfl | rfl | rfl
  · exact ⟨20, _, _, _, by decide, by decide, by decide, hst _ _ _ _ (p_short_0 hS)⟩
  · exact ⟨20, _, _, _, by decide, by decide, by decide, hst _ _ _ _ (p_short_1 hS)⟩
  · obtain ⟨h', n', z', hn, hz, k⟩ := p_two hS hfr
    exact ⟨20, h', n', z', by decide, by omega, by omega, hst _ _ _ _ k⟩
