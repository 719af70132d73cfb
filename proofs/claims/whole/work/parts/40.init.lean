theorem x_D_init {G : cp_G} {h : Nat → cp_E} {z d : Nat} {g3 : Nat → Value} (hd : 1 ≤ d) (H3 : h 3 = .inr (1, g3)) : cp_C G d m_D_init [.ref (cp_b G + 3)] h 4 z none (va_up (va_up (va_up (va_up (va_up h 4 (.inl (cp_cE G, 26, .inr (.inr (.inr (.inr (fun _ => none))))))) 3 (.inr (1, (va_up g3 0 (.ref (cp_b G + 4)))))) 5 (.inl (cp_cC G, 26, .inl (fun _ => 0)))) 3 (.inr (1, (va_up (va_up g3 0 (.ref (cp_b G + 4))) 1 (.ref (cp_b G + 5)))))) 3 (.inr (1, (va_up (va_up (va_up g3 0 (.ref (cp_b G + 4))) 1 (.ref (cp_b G + 5))) 2 (.int 0))))) 6 (z + 52) := by
  refine cp_C.of rfl (Nat.le_of_ble_eq_true rfl) ?_
  refine vv_aload_n (pc := 0) d_D_init_0 rfl ?_
  refine vv_obj (pc := 1) d_D_init_1 ol_D_3 cp_oi cp_oc (by omega) (Nat.le_of_ble_eq_true rfl) ?_
  refine vv_aload_n (pc := 4) d_D_init_4 rfl ?_
  refine vv_bipush (pc := 5) (v := 26) d_D_init_5 rfl ?_
  refine vv_newaE (pc := 7) (N := 26) d_D_init_7 (cl_D_9) (by decide +kernel) (by decide +kernel) (by decide +kernel) ?_
  refine vv_putF (pc := 10) d_D_init_10 fl_D_11 (by decide) H3 rfl rfl rfl rfl rfl ?_
  refine vv_aload_n (pc := 13) d_D_init_13 rfl ?_
  refine vv_bipush (pc := 14) (v := 26) d_D_init_14 rfl ?_
  refine vv_newaC (pc := 16) (N := 26) d_D_init_16 cp_arC (by decide +kernel) (by decide +kernel) (by decide +kernel) ?_
  refine vv_putF (pc := 18) d_D_init_18 fl_D_17 (by decide) rfl rfl rfl rfl rfl rfl ?_
  refine vv_aload_n (pc := 21) d_D_init_21 rfl ?_
  refine vv_iconst (pc := 22) (v := 0) d_D_init_22 rfl ?_
  refine vv_putf (pc := 23) d_D_init_23 fl_D_21 (by decide) rfl rfl rfl rfl ?_
  exact vv_vret (pc := 26) d_D_init_26 rfl
theorem x_R_init {G : cp_G} {h : Nat → cp_E} {z d : Nat} {g7 : Nat → Value} (hd : 1 ≤ d) (H7 : h 7 = .inr (3, g7)) : cp_C G d m_R_init [.ref (cp_b G + 7), .int 512] h 8 z none (va_up (va_up (va_up h 8 (.inl (cp_cI G, 512, .inl (fun _ => 0)))) 7 (.inr (3, (va_up g7 0 (.ref (cp_b G + 8)))))) 7 (.inr (3, (va_up (va_up g7 0 (.ref (cp_b G + 8))) 1 (.int 0))))) 9 (z + 512) := by
  refine cp_C.of rfl (Nat.le_of_ble_eq_true rfl) ?_
  refine vv_aload_n (pc := 0) d_R_init_0 rfl ?_
  refine vv_obj (pc := 1) d_R_init_1 ol_R_3 cp_oi cp_oc (by omega) (Nat.le_of_ble_eq_true rfl) ?_
  refine vv_aload_n (pc := 4) d_R_init_4 rfl ?_
  refine vv_iload_n (pc := 5) d_R_init_5 rfl ?_
  refine vv_iconst (pc := 6) (v := 1) d_R_init_6 rfl ?_
  refine vv_mmax (pc := 7) d_R_init_7 ml_R_9.1 (by omega) (Nat.le_of_ble_eq_true rfl) ?_
  refine vv_newaI (pc := 10) (N := 512) d_R_init_10 cp_arI (by decide +kernel) (by decide +kernel) (by decide +kernel) ?_
  refine vv_putf (pc := 12) d_R_init_12 fl_R_15 (by decide) H7 rfl rfl rfl ?_
  refine vv_aload_n (pc := 15) d_R_init_15 rfl ?_
  refine vv_iconst (pc := 16) (v := 0) d_R_init_16 rfl ?_
  refine vv_putf (pc := 17) d_R_init_17 fl_R_21 (by decide) rfl rfl rfl rfl ?_
  exact vv_vret (pc := 20) d_R_init_20 rfl
theorem x_R_init_2 {G : cp_G} {h : Nat → cp_E} {z d : Nat} {g9 : Nat → Value} (hd : 1 ≤ d) (H9 : h 9 = .inr (3, g9)) : cp_C G d m_R_init [.ref (cp_b G + 9), .int 64] h 10 z none (va_up (va_up (va_up h 10 (.inl (cp_cI G, 64, .inl (fun _ => 0)))) 9 (.inr (3, (va_up g9 0 (.ref (cp_b G + 10)))))) 9 (.inr (3, (va_up (va_up g9 0 (.ref (cp_b G + 10))) 1 (.int 0))))) 11 (z + 64) := by
  refine cp_C.of rfl (Nat.le_of_ble_eq_true rfl) ?_
  refine vv_aload_n (pc := 0) d_R_init_0 rfl ?_
  refine vv_obj (pc := 1) d_R_init_1 ol_R_3 cp_oi cp_oc (by omega) (Nat.le_of_ble_eq_true rfl) ?_
  refine vv_aload_n (pc := 4) d_R_init_4 rfl ?_
  refine vv_iload_n (pc := 5) d_R_init_5 rfl ?_
  refine vv_iconst (pc := 6) (v := 1) d_R_init_6 rfl ?_
  refine vv_mmax (pc := 7) d_R_init_7 ml_R_9.1 (by omega) (Nat.le_of_ble_eq_true rfl) ?_
  refine vv_newaI (pc := 10) (N := 64) d_R_init_10 cp_arI (by decide +kernel) (by decide +kernel) (by decide +kernel) ?_
  refine vv_putf (pc := 12) d_R_init_12 fl_R_15 (by decide) H9 rfl rfl rfl ?_
  refine vv_aload_n (pc := 15) d_R_init_15 rfl ?_
  refine vv_iconst (pc := 16) (v := 0) d_R_init_16 rfl ?_
  refine vv_putf (pc := 17) d_R_init_17 fl_R_21 (by decide) rfl rfl rfl rfl ?_
  exact vv_vret (pc := 20) d_R_init_20 rfl
theorem x_R_init_3 {G : cp_G} {h : Nat → cp_E} {z d : Nat} {g11 : Nat → Value} (hd : 1 ≤ d) (H11 : h 11 = .inr (3, g11)) : cp_C G d m_R_init [.ref (cp_b G + 11), .int 64] h 12 z none (va_up (va_up (va_up h 12 (.inl (cp_cI G, 64, .inl (fun _ => 0)))) 11 (.inr (3, (va_up g11 0 (.ref (cp_b G + 12)))))) 11 (.inr (3, (va_up (va_up g11 0 (.ref (cp_b G + 12))) 1 (.int 0))))) 13 (z + 64) := by
  refine cp_C.of rfl (Nat.le_of_ble_eq_true rfl) ?_
  refine vv_aload_n (pc := 0) d_R_init_0 rfl ?_
  refine vv_obj (pc := 1) d_R_init_1 ol_R_3 cp_oi cp_oc (by omega) (Nat.le_of_ble_eq_true rfl) ?_
  refine vv_aload_n (pc := 4) d_R_init_4 rfl ?_
  refine vv_iload_n (pc := 5) d_R_init_5 rfl ?_
  refine vv_iconst (pc := 6) (v := 1) d_R_init_6 rfl ?_
  refine vv_mmax (pc := 7) d_R_init_7 ml_R_9.1 (by omega) (Nat.le_of_ble_eq_true rfl) ?_
  refine vv_newaI (pc := 10) (N := 64) d_R_init_10 cp_arI (by decide +kernel) (by decide +kernel) (by decide +kernel) ?_
  refine vv_putf (pc := 12) d_R_init_12 fl_R_15 (by decide) H11 rfl rfl rfl ?_
  refine vv_aload_n (pc := 15) d_R_init_15 rfl ?_
  refine vv_iconst (pc := 16) (v := 0) d_R_init_16 rfl ?_
  refine vv_putf (pc := 17) d_R_init_17 fl_R_21 (by decide) rfl rfl rfl rfl ?_
  exact vv_vret (pc := 20) d_R_init_20 rfl
theorem x_V_init {G : cp_G} {h : Nat → cp_E} {z d : Nat} {g6 : Nat → Value} (hd : 2 ≤ d) (H6 : h 6 = .inr (2, g6)) : cp_C G d m_V_init [.ref (cp_b G + 6)] h 7 z none (va_up (va_up (va_up (va_up (va_up (va_up (va_up (va_up (va_up (va_up (va_up (va_up (va_up (va_up (va_up (va_up (va_up (va_up h 7 (.inr (3, (fun k => defaultValue (cp_ty 3 k))))) 8 (.inl (cp_cI G, 512, .inl (fun _ => 0)))) 7 (.inr (3, (va_up (fun k => defaultValue (cp_ty 3 k)) 0 (.ref (cp_b G + 8)))))) 7 (.inr (3, (va_up (va_up (fun k => defaultValue (cp_ty 3 k)) 0 (.ref (cp_b G + 8))) 1 (.int 0))))) 6 (.inr (2, (va_up g6 0 (.ref (cp_b G + 7)))))) 9 (.inr (3, (fun k => defaultValue (cp_ty 3 k))))) 10 (.inl (cp_cI G, 64, .inl (fun _ => 0)))) 9 (.inr (3, (va_up (fun k => defaultValue (cp_ty 3 k)) 0 (.ref (cp_b G + 10)))))) 9 (.inr (3, (va_up (va_up (fun k => defaultValue (cp_ty 3 k)) 0 (.ref (cp_b G + 10))) 1 (.int 0))))) 6 (.inr (2, (va_up (va_up g6 0 (.ref (cp_b G + 7))) 1 (.ref (cp_b G + 9)))))) 11 (.inr (3, (fun k => defaultValue (cp_ty 3 k))))) 12 (.inl (cp_cI G, 64, .inl (fun _ => 0)))) 11 (.inr (3, (va_up (fun k => defaultValue (cp_ty 3 k)) 0 (.ref (cp_b G + 12)))))) 11 (.inr (3, (va_up (va_up (fun k => defaultValue (cp_ty 3 k)) 0 (.ref (cp_b G + 12))) 1 (.int 0))))) 6 (.inr (2, (va_up (va_up (va_up g6 0 (.ref (cp_b G + 7))) 1 (.ref (cp_b G + 9))) 2 (.ref (cp_b G + 11)))))) 13 (.inl (cp_cC G, 101, .inl (fun _ => 0)))) 6 (.inr (2, (va_up (va_up (va_up (va_up g6 0 (.ref (cp_b G + 7))) 1 (.ref (cp_b G + 9))) 2 (.ref (cp_b G + 11))) 3 (.ref (cp_b G + 13)))))) 6 (.inr (2, (va_up (va_up (va_up (va_up (va_up g6 0 (.ref (cp_b G + 7))) 1 (.ref (cp_b G + 9))) 2 (.ref (cp_b G + 11))) 3 (.ref (cp_b G + 13))) 4 (.int 0))))) 14 (z + 747) := by
  refine cp_C.of rfl (Nat.le_of_ble_eq_true rfl) ?_
  refine vv_aload_n (pc := 0) d_V_init_0 rfl ?_
  refine vv_obj (pc := 1) d_V_init_1 ol_V_3 cp_oi cp_oc (by omega) (Nat.le_of_ble_eq_true rfl) ?_
  refine vv_aload_n (pc := 4) d_V_init_4 rfl ?_
  refine vv_new (pc := 5) (N := 2) d_V_init_5 cp_ok3 cl_V_9 rfl ?_
  refine vv_dup (pc := 8) d_V_init_8 rfl ?_
  refine vv_sipush (pc := 9) (v := 512) d_V_init_9 rfl ?_
  refine vv_callI (pc := 12) (As := [.int 512]) d_V_init_12 (x_R_init (d := d - 1) (by omega) rfl) k_R_init ml_V_11.1 ml_V_11.2.1 ml_V_11.2.2.1 ml_V_11.2.2.2 (by omega) (Nat.le_of_ble_eq_true rfl) ?_
  refine vv_putF (pc := 15) d_V_init_15 fl_V_14 (by decide) H6 rfl rfl rfl rfl rfl ?_
  refine vv_aload_n (pc := 18) d_V_init_18 rfl ?_
  refine vv_new (pc := 19) (N := 2) d_V_init_19 cp_ok3 cl_V_9 rfl ?_
  refine vv_dup (pc := 22) d_V_init_22 rfl ?_
  refine vv_bipush (pc := 23) (v := 64) d_V_init_23 rfl ?_
  refine vv_callI (pc := 25) (As := [.int 64]) d_V_init_25 (x_R_init_2 (d := d - 1) (by omega) rfl) k_R_init ml_V_11.1 ml_V_11.2.1 ml_V_11.2.2.1 ml_V_11.2.2.2 (by omega) (Nat.le_of_ble_eq_true rfl) ?_
  refine vv_putF (pc := 28) d_V_init_28 fl_V_20 (by decide) rfl rfl rfl rfl rfl rfl ?_
  refine vv_aload_n (pc := 31) d_V_init_31 rfl ?_
  refine vv_new (pc := 32) (N := 2) d_V_init_32 cp_ok3 cl_V_9 rfl ?_
  refine vv_dup (pc := 35) d_V_init_35 rfl ?_
  refine vv_bipush (pc := 36) (v := 64) d_V_init_36 rfl ?_
  refine vv_callI (pc := 38) (As := [.int 64]) d_V_init_38 (x_R_init_3 (d := d - 1) (by omega) rfl) k_R_init ml_V_11.1 ml_V_11.2.1 ml_V_11.2.2.1 ml_V_11.2.2.2 (by omega) (Nat.le_of_ble_eq_true rfl) ?_
  refine vv_putF (pc := 41) d_V_init_41 fl_V_23 (by decide) rfl rfl rfl rfl rfl rfl ?_
  refine vv_aload_n (pc := 44) d_V_init_44 rfl ?_
  refine vv_bipush (pc := 45) (v := 101) d_V_init_45 rfl ?_
  refine vv_newaC (pc := 47) (N := 101) d_V_init_47 cp_arC (by decide +kernel) (by decide +kernel) (by decide +kernel) ?_
  refine vv_putF (pc := 49) d_V_init_49 fl_V_26 (by decide) rfl rfl rfl rfl rfl rfl ?_
  refine vv_aload_n (pc := 52) d_V_init_52 rfl ?_
  refine vv_iconst (pc := 53) (v := 0) d_V_init_53 rfl ?_
  refine vv_putf (pc := 54) d_V_init_54 fl_V_30 (by decide) rfl rfl rfl rfl ?_
  exact vv_vret (pc := 57) d_V_init_57 rfl
theorem x_R_init_4 {G : cp_G} {h : Nat → cp_E} {z d : Nat} {g15 : Nat → Value} (hd : 1 ≤ d) (H15 : h 15 = .inr (3, g15)) : cp_C G d m_R_init [.ref (cp_b G + 15), .int 64] h 16 z none (va_up (va_up (va_up h 16 (.inl (cp_cI G, 64, .inl (fun _ => 0)))) 15 (.inr (3, (va_up g15 0 (.ref (cp_b G + 16)))))) 15 (.inr (3, (va_up (va_up g15 0 (.ref (cp_b G + 16))) 1 (.int 0))))) 17 (z + 64) := by
  refine cp_C.of rfl (Nat.le_of_ble_eq_true rfl) ?_
  refine vv_aload_n (pc := 0) d_R_init_0 rfl ?_
  refine vv_obj (pc := 1) d_R_init_1 ol_R_3 cp_oi cp_oc (by omega) (Nat.le_of_ble_eq_true rfl) ?_
  refine vv_aload_n (pc := 4) d_R_init_4 rfl ?_
  refine vv_iload_n (pc := 5) d_R_init_5 rfl ?_
  refine vv_iconst (pc := 6) (v := 1) d_R_init_6 rfl ?_
  refine vv_mmax (pc := 7) d_R_init_7 ml_R_9.1 (by omega) (Nat.le_of_ble_eq_true rfl) ?_
  refine vv_newaI (pc := 10) (N := 64) d_R_init_10 cp_arI (by decide +kernel) (by decide +kernel) (by decide +kernel) ?_
  refine vv_putf (pc := 12) d_R_init_12 fl_R_15 (by decide) H15 rfl rfl rfl ?_
  refine vv_aload_n (pc := 15) d_R_init_15 rfl ?_
  refine vv_iconst (pc := 16) (v := 0) d_R_init_16 rfl ?_
  refine vv_putf (pc := 17) d_R_init_17 fl_R_21 (by decide) rfl rfl rfl rfl ?_
  exact vv_vret (pc := 20) d_R_init_20 rfl
theorem x_R_init_5 {G : cp_G} {h : Nat → cp_E} {z d : Nat} {g17 : Nat → Value} (hd : 1 ≤ d) (H17 : h 17 = .inr (3, g17)) : cp_C G d m_R_init [.ref (cp_b G + 17), .int 64] h 18 z none (va_up (va_up (va_up h 18 (.inl (cp_cI G, 64, .inl (fun _ => 0)))) 17 (.inr (3, (va_up g17 0 (.ref (cp_b G + 18)))))) 17 (.inr (3, (va_up (va_up g17 0 (.ref (cp_b G + 18))) 1 (.int 0))))) 19 (z + 64) := by
  refine cp_C.of rfl (Nat.le_of_ble_eq_true rfl) ?_
  refine vv_aload_n (pc := 0) d_R_init_0 rfl ?_
  refine vv_obj (pc := 1) d_R_init_1 ol_R_3 cp_oi cp_oc (by omega) (Nat.le_of_ble_eq_true rfl) ?_
  refine vv_aload_n (pc := 4) d_R_init_4 rfl ?_
  refine vv_iload_n (pc := 5) d_R_init_5 rfl ?_
  refine vv_iconst (pc := 6) (v := 1) d_R_init_6 rfl ?_
  refine vv_mmax (pc := 7) d_R_init_7 ml_R_9.1 (by omega) (Nat.le_of_ble_eq_true rfl) ?_
  refine vv_newaI (pc := 10) (N := 64) d_R_init_10 cp_arI (by decide +kernel) (by decide +kernel) (by decide +kernel) ?_
  refine vv_putf (pc := 12) d_R_init_12 fl_R_15 (by decide) H17 rfl rfl rfl ?_
  refine vv_aload_n (pc := 15) d_R_init_15 rfl ?_
  refine vv_iconst (pc := 16) (v := 0) d_R_init_16 rfl ?_
  refine vv_putf (pc := 17) d_R_init_17 fl_R_21 (by decide) rfl rfl rfl rfl ?_
  exact vv_vret (pc := 20) d_R_init_20 rfl
theorem x_R_init_6 {G : cp_G} {h : Nat → cp_E} {z d : Nat} {g19 : Nat → Value} (hd : 1 ≤ d) (H19 : h 19 = .inr (3, g19)) : cp_C G d m_R_init [.ref (cp_b G + 19), .int 64] h 20 z none (va_up (va_up (va_up h 20 (.inl (cp_cI G, 64, .inl (fun _ => 0)))) 19 (.inr (3, (va_up g19 0 (.ref (cp_b G + 20)))))) 19 (.inr (3, (va_up (va_up g19 0 (.ref (cp_b G + 20))) 1 (.int 0))))) 21 (z + 64) := by
  refine cp_C.of rfl (Nat.le_of_ble_eq_true rfl) ?_
  refine vv_aload_n (pc := 0) d_R_init_0 rfl ?_
  refine vv_obj (pc := 1) d_R_init_1 ol_R_3 cp_oi cp_oc (by omega) (Nat.le_of_ble_eq_true rfl) ?_
  refine vv_aload_n (pc := 4) d_R_init_4 rfl ?_
  refine vv_iload_n (pc := 5) d_R_init_5 rfl ?_
  refine vv_iconst (pc := 6) (v := 1) d_R_init_6 rfl ?_
  refine vv_mmax (pc := 7) d_R_init_7 ml_R_9.1 (by omega) (Nat.le_of_ble_eq_true rfl) ?_
  refine vv_newaI (pc := 10) (N := 64) d_R_init_10 cp_arI (by decide +kernel) (by decide +kernel) (by decide +kernel) ?_
  refine vv_putf (pc := 12) d_R_init_12 fl_R_15 (by decide) H19 rfl rfl rfl ?_
  refine vv_aload_n (pc := 15) d_R_init_15 rfl ?_
  refine vv_iconst (pc := 16) (v := 0) d_R_init_16 rfl ?_
  refine vv_putf (pc := 17) d_R_init_17 fl_R_21 (by decide) rfl rfl rfl rfl ?_
  exact vv_vret (pc := 20) d_R_init_20 rfl
theorem x_B_init {G : cp_G} {h : Nat → cp_E} {z d : Nat} {g14 : Nat → Value} (hd : 2 ≤ d) (H14 : h 14 = .inr (4, g14)) : cp_C G d m_B_init [.ref (cp_b G + 14)] h 15 z none (va_up (va_up (va_up (va_up (va_up (va_up (va_up (va_up (va_up (va_up (va_up (va_up (va_up (va_up (va_up h 15 (.inr (3, (fun k => defaultValue (cp_ty 3 k))))) 16 (.inl (cp_cI G, 64, .inl (fun _ => 0)))) 15 (.inr (3, (va_up (fun k => defaultValue (cp_ty 3 k)) 0 (.ref (cp_b G + 16)))))) 15 (.inr (3, (va_up (va_up (fun k => defaultValue (cp_ty 3 k)) 0 (.ref (cp_b G + 16))) 1 (.int 0))))) 14 (.inr (4, (va_up g14 0 (.ref (cp_b G + 15)))))) 17 (.inr (3, (fun k => defaultValue (cp_ty 3 k))))) 18 (.inl (cp_cI G, 64, .inl (fun _ => 0)))) 17 (.inr (3, (va_up (fun k => defaultValue (cp_ty 3 k)) 0 (.ref (cp_b G + 18)))))) 17 (.inr (3, (va_up (va_up (fun k => defaultValue (cp_ty 3 k)) 0 (.ref (cp_b G + 18))) 1 (.int 0))))) 14 (.inr (4, (va_up (va_up g14 0 (.ref (cp_b G + 15))) 1 (.ref (cp_b G + 17)))))) 19 (.inr (3, (fun k => defaultValue (cp_ty 3 k))))) 20 (.inl (cp_cI G, 64, .inl (fun _ => 0)))) 19 (.inr (3, (va_up (fun k => defaultValue (cp_ty 3 k)) 0 (.ref (cp_b G + 20)))))) 19 (.inr (3, (va_up (va_up (fun k => defaultValue (cp_ty 3 k)) 0 (.ref (cp_b G + 20))) 1 (.int 0))))) 14 (.inr (4, (va_up (va_up (va_up g14 0 (.ref (cp_b G + 15))) 1 (.ref (cp_b G + 17))) 2 (.ref (cp_b G + 19)))))) 21 (z + 198) := by
  refine cp_C.of rfl (Nat.le_of_ble_eq_true rfl) ?_
  refine vv_aload_n (pc := 0) d_B_init_0 rfl ?_
  refine vv_obj (pc := 1) d_B_init_1 ol_B_3 cp_oi cp_oc (by omega) (Nat.le_of_ble_eq_true rfl) ?_
  refine vv_aload_n (pc := 4) d_B_init_4 rfl ?_
  refine vv_new (pc := 5) (N := 2) d_B_init_5 cp_ok3 cl_B_9 rfl ?_
  refine vv_dup (pc := 8) d_B_init_8 rfl ?_
  refine vv_bipush (pc := 9) (v := 64) d_B_init_9 rfl ?_
  refine vv_callI (pc := 11) (As := [.int 64]) d_B_init_11 (x_R_init_4 (d := d - 1) (by omega) rfl) k_R_init ml_B_11.1 ml_B_11.2.1 ml_B_11.2.2.1 ml_B_11.2.2.2 (by omega) (Nat.le_of_ble_eq_true rfl) ?_
  refine vv_putF (pc := 14) d_B_init_14 fl_B_14 (by decide) H14 rfl rfl rfl rfl rfl ?_
  refine vv_aload_n (pc := 17) d_B_init_17 rfl ?_
  refine vv_new (pc := 18) (N := 2) d_B_init_18 cp_ok3 cl_B_9 rfl ?_
  refine vv_dup (pc := 21) d_B_init_21 rfl ?_
  refine vv_bipush (pc := 22) (v := 64) d_B_init_22 rfl ?_
  refine vv_callI (pc := 24) (As := [.int 64]) d_B_init_24 (x_R_init_5 (d := d - 1) (by omega) rfl) k_R_init ml_B_11.1 ml_B_11.2.1 ml_B_11.2.2.1 ml_B_11.2.2.2 (by omega) (Nat.le_of_ble_eq_true rfl) ?_
  refine vv_putF (pc := 27) d_B_init_27 fl_B_20 (by decide) rfl rfl rfl rfl rfl rfl ?_
  refine vv_aload_n (pc := 30) d_B_init_30 rfl ?_
  refine vv_new (pc := 31) (N := 2) d_B_init_31 cp_ok3 cl_B_9 rfl ?_
  refine vv_dup (pc := 34) d_B_init_34 rfl ?_
  refine vv_bipush (pc := 35) (v := 64) d_B_init_35 rfl ?_
  refine vv_callI (pc := 37) (As := [.int 64]) d_B_init_37 (x_R_init_6 (d := d - 1) (by omega) rfl) k_R_init ml_B_11.1 ml_B_11.2.1 ml_B_11.2.2.1 ml_B_11.2.2.2 (by omega) (Nat.le_of_ble_eq_true rfl) ?_
  refine vv_putF (pc := 40) d_B_init_40 fl_B_23 (by decide) rfl rfl rfl rfl rfl rfl ?_
  exact vv_vret (pc := 43) d_B_init_43 rfl
theorem x_Q_init {G : cp_G} {h : Nat → cp_E} {z d : Nat} {g21 : Nat → Value} (hd : 1 ≤ d) (H21 : h 21 = .inr (5, g21)) : cp_C G d m_Q_init [.ref (cp_b G + 21)] h 22 z none (va_up (va_up (va_up (va_up h 22 (.inl (cp_cC G, 0, .inl (fun _ => 0)))) 21 (.inr (5, (va_up g21 0 (.ref (cp_b G + 22)))))) 21 (.inr (5, (va_up (va_up g21 0 (.ref (cp_b G + 22))) 1 (.int 0))))) 21 (.inr (5, (va_up (va_up (va_up g21 0 (.ref (cp_b G + 22))) 1 (.int 0)) 2 (.int 0))))) 23 (z + 0) := by
  refine cp_C.of rfl (Nat.le_of_ble_eq_true rfl) ?_
  refine vv_aload_n (pc := 0) d_Q_init_0 rfl ?_
  refine vv_obj (pc := 1) d_Q_init_1 ol_Q_3 cp_oi cp_oc (by omega) (Nat.le_of_ble_eq_true rfl) ?_
  refine vv_aload_n (pc := 4) d_Q_init_4 rfl ?_
  refine vv_iconst (pc := 5) (v := 0) d_Q_init_5 rfl ?_
  refine vv_newaC (pc := 6) (N := 0) d_Q_init_6 cp_arC (by decide +kernel) (by decide +kernel) (by decide +kernel) ?_
  refine vv_putf (pc := 8) d_Q_init_8 fl_Q_9 (by decide) H21 rfl rfl rfl ?_
  refine vv_aload_n (pc := 11) d_Q_init_11 rfl ?_
  refine vv_iconst (pc := 12) (v := 0) d_Q_init_12 rfl ?_
  refine vv_putf (pc := 13) d_Q_init_13 fl_Q_15 (by decide) rfl rfl rfl rfl ?_
  refine vv_aload_n (pc := 16) d_Q_init_16 rfl ?_
  refine vv_iconst (pc := 17) (v := 0) d_Q_init_17 rfl ?_
  refine vv_putf (pc := 18) d_Q_init_18 fl_Q_19 (by decide) rfl rfl rfl rfl ?_
  exact vv_vret (pc := 21) d_Q_init_21 rfl
theorem x_U_init {G : cp_G} {h : Nat → cp_E} {z d : Nat} {g23 : Nat → Value} (hd : 1 ≤ d) (H23 : h 23 = .inr (6, g23)) : cp_C G d m_U_init [.ref (cp_b G + 23), .ref (cp_b G + 3), .ref (cp_b G + 6), .ref (cp_b G + 14)] h 24 z none (va_up (va_up (va_up (va_up (va_up h 23 (.inr (6, (va_up g23 0 (.ref (cp_b G + 3)))))) 23 (.inr (6, (va_up (va_up g23 0 (.ref (cp_b G + 3))) 1 (.ref (cp_b G + 6)))))) 23 (.inr (6, (va_up (va_up (va_up g23 0 (.ref (cp_b G + 3))) 1 (.ref (cp_b G + 6))) 2 (.ref (cp_b G + 14)))))) 23 (.inr (6, (va_up (va_up (va_up (va_up g23 0 (.ref (cp_b G + 3))) 1 (.ref (cp_b G + 6))) 2 (.ref (cp_b G + 14))) 3 (.int 0))))) 23 (.inr (6, (va_up (va_up (va_up (va_up (va_up g23 0 (.ref (cp_b G + 3))) 1 (.ref (cp_b G + 6))) 2 (.ref (cp_b G + 14))) 3 (.int 0)) 4 (.int 0))))) 24 (z + 0) := by
  refine cp_C.of rfl (Nat.le_of_ble_eq_true rfl) ?_
  refine vv_aload_n (pc := 0) d_U_init_0 rfl ?_
  refine vv_obj (pc := 1) d_U_init_1 ol_U_3 cp_oi cp_oc (by omega) (Nat.le_of_ble_eq_true rfl) ?_
  refine vv_aload_n (pc := 4) d_U_init_4 rfl ?_
  refine vv_aload_n (pc := 5) d_U_init_5 rfl ?_
  refine vv_putF (pc := 6) d_U_init_6 fl_U_9 (by decide) H23 rfl rfl rfl rfl rfl ?_
  refine vv_aload_n (pc := 9) d_U_init_9 rfl ?_
  refine vv_aload_n (pc := 10) d_U_init_10 rfl ?_
  refine vv_putF (pc := 11) d_U_init_11 fl_U_15 (by decide) rfl rfl rfl rfl rfl rfl ?_
  refine vv_aload_n (pc := 14) d_U_init_14 rfl ?_
  refine vv_aload_n (pc := 15) d_U_init_15 rfl ?_
  refine vv_putF (pc := 16) d_U_init_16 fl_U_19 (by decide) rfl rfl rfl rfl rfl rfl ?_
  refine vv_aload_n (pc := 19) d_U_init_19 rfl ?_
  refine vv_iconst (pc := 20) (v := 0) d_U_init_20 rfl ?_
  refine vv_putf (pc := 21) d_U_init_21 fl_U_23 (by decide) rfl rfl rfl rfl ?_
  refine vv_aload_n (pc := 24) d_U_init_24 rfl ?_
  refine vv_iconst (pc := 25) (v := 0) d_U_init_25 rfl ?_
  refine vv_putf (pc := 26) d_U_init_26 fl_U_27 (by decide) rfl rfl rfl rfl ?_
  exact vv_vret (pc := 29) d_U_init_29 rfl
theorem x_T_init {G : cp_G} {h : Nat → cp_E} {z d : Nat} {g24 : Nat → Value} (hd : 1 ≤ d) (H24 : h 24 = .inr (7, g24)) : cp_C G d m_T_init [.ref (cp_b G + 24), .ref (cp_b G + 3), .ref (cp_b G + 6), .ref (cp_b G + 14), .ref (cp_b G + 23)] h 25 z none (va_up (va_up (va_up (va_up (va_up (va_up (va_up (va_up h 24 (.inr (7, (va_up g24 0 (.ref (cp_b G + 3)))))) 24 (.inr (7, (va_up (va_up g24 0 (.ref (cp_b G + 3))) 1 (.ref (cp_b G + 6)))))) 24 (.inr (7, (va_up (va_up (va_up g24 0 (.ref (cp_b G + 3))) 1 (.ref (cp_b G + 6))) 2 (.ref (cp_b G + 14)))))) 24 (.inr (7, (va_up (va_up (va_up (va_up g24 0 (.ref (cp_b G + 3))) 1 (.ref (cp_b G + 6))) 2 (.ref (cp_b G + 14))) 3 (.ref (cp_b G + 23)))))) 24 (.inr (7, (va_up (va_up (va_up (va_up (va_up g24 0 (.ref (cp_b G + 3))) 1 (.ref (cp_b G + 6))) 2 (.ref (cp_b G + 14))) 3 (.ref (cp_b G + 23))) 4 (.int 0))))) 24 (.inr (7, (va_up (va_up (va_up (va_up (va_up (va_up g24 0 (.ref (cp_b G + 3))) 1 (.ref (cp_b G + 6))) 2 (.ref (cp_b G + 14))) 3 (.ref (cp_b G + 23))) 4 (.int 0)) 5 (.int 0))))) 24 (.inr (7, (va_up (va_up (va_up (va_up (va_up (va_up (va_up g24 0 (.ref (cp_b G + 3))) 1 (.ref (cp_b G + 6))) 2 (.ref (cp_b G + 14))) 3 (.ref (cp_b G + 23))) 4 (.int 0)) 5 (.int 0)) 6 (.int (-1)))))) 24 (.inr (7, (va_up (va_up (va_up (va_up (va_up (va_up (va_up (va_up g24 0 (.ref (cp_b G + 3))) 1 (.ref (cp_b G + 6))) 2 (.ref (cp_b G + 14))) 3 (.ref (cp_b G + 23))) 4 (.int 0)) 5 (.int 0)) 6 (.int (-1))) 7 (.int (-1)))))) 25 (z + 0) := by
  refine cp_C.of rfl (Nat.le_of_ble_eq_true rfl) ?_
  refine vv_aload_n (pc := 0) d_T_init_0 rfl ?_
  refine vv_obj (pc := 1) d_T_init_1 ol_T_3 cp_oi cp_oc (by omega) (Nat.le_of_ble_eq_true rfl) ?_
  refine vv_aload_n (pc := 4) d_T_init_4 rfl ?_
  refine vv_aload_n (pc := 5) d_T_init_5 rfl ?_
  refine vv_putF (pc := 6) d_T_init_6 fl_T_9 (by decide) H24 rfl rfl rfl rfl rfl ?_
  refine vv_aload_n (pc := 9) d_T_init_9 rfl ?_
  refine vv_aload_n (pc := 10) d_T_init_10 rfl ?_
  refine vv_putF (pc := 11) d_T_init_11 fl_T_15 (by decide) rfl rfl rfl rfl rfl rfl ?_
  refine vv_aload_n (pc := 14) d_T_init_14 rfl ?_
  refine vv_aload_n (pc := 15) d_T_init_15 rfl ?_
  refine vv_putF (pc := 16) d_T_init_16 fl_T_19 (by decide) rfl rfl rfl rfl rfl rfl ?_
  refine vv_aload_n (pc := 19) d_T_init_19 rfl ?_
  refine vv_aload (pc := 20) d_T_init_20 rfl ?_
  refine vv_putF (pc := 22) d_T_init_22 fl_T_23 (by decide) rfl rfl rfl rfl rfl rfl ?_
  refine vv_aload_n (pc := 25) d_T_init_25 rfl ?_
  refine vv_iconst (pc := 26) (v := 0) d_T_init_26 rfl ?_
  refine vv_putf (pc := 27) d_T_init_27 fl_T_27 (by decide) rfl rfl rfl rfl ?_
  refine vv_aload_n (pc := 30) d_T_init_30 rfl ?_
  refine vv_iconst (pc := 31) (v := 0) d_T_init_31 rfl ?_
  refine vv_putf (pc := 32) d_T_init_32 fl_T_31 (by decide) rfl rfl rfl rfl ?_
  refine vv_aload_n (pc := 35) d_T_init_35 rfl ?_
  refine vv_iconst (pc := 36) (v := (-1)) d_T_init_36 rfl ?_
  refine vv_putf (pc := 37) d_T_init_37 fl_T_35 (by decide) rfl rfl rfl rfl ?_
  refine vv_aload_n (pc := 40) d_T_init_40 rfl ?_
  refine vv_iconst (pc := 41) (v := (-1)) d_T_init_41 rfl ?_
  refine vv_putf (pc := 42) d_T_init_42 fl_T_38 (by decide) rfl rfl rfl rfl ?_
  exact vv_vret (pc := 45) d_T_init_45 rfl
theorem x_I_init {G : cp_G} {h : Nat → cp_E} {z d : Nat} {g25 : Nat → Value} (hd : 1 ≤ d) (H25 : h 25 = .inr (8, g25)) : cp_C G d m_I_init [.ref (cp_b G + 25), .ref (cp_b G + 3), .ref (cp_b G + 14)] h 26 z none (va_up (va_up h 25 (.inr (8, (va_up g25 0 (.ref (cp_b G + 3)))))) 25 (.inr (8, (va_up (va_up g25 0 (.ref (cp_b G + 3))) 1 (.ref (cp_b G + 14)))))) 26 (z + 0) := by
  refine cp_C.of rfl (Nat.le_of_ble_eq_true rfl) ?_
  refine vv_aload_n (pc := 0) d_I_init_0 rfl ?_
  refine vv_obj (pc := 1) d_I_init_1 ol_I_3 cp_oi cp_oc (by omega) (Nat.le_of_ble_eq_true rfl) ?_
  refine vv_aload_n (pc := 4) d_I_init_4 rfl ?_
  refine vv_aload_n (pc := 5) d_I_init_5 rfl ?_
  refine vv_putF (pc := 6) d_I_init_6 fl_I_9 (by decide) H25 rfl rfl rfl rfl rfl ?_
  refine vv_aload_n (pc := 9) d_I_init_9 rfl ?_
  refine vv_aload_n (pc := 10) d_I_init_10 rfl ?_
  refine vv_putF (pc := 11) d_I_init_11 fl_I_15 (by decide) rfl rfl rfl rfl rfl rfl ?_
  exact vv_vret (pc := 14) d_I_init_14 rfl
theorem x_P_init {G : cp_G} {h : Nat → cp_E} {z d : Nat} {g0 : Nat → Value} (hd : 3 ≤ d) (H0 : h 0 = .inr (0, g0)) : cp_C G d m_P_init [.ref (cp_b G + 0)] h 1 z none (va_up (va_up (va_up (va_up (va_up (va_up (va_up (va_up (va_up (va_up (va_up (va_up (va_up (va_up (va_up (va_up (va_up (va_up (va_up (va_up (va_up (va_up (va_up (va_up (va_up (va_up (va_up (va_up (va_up (va_up (va_up (va_up (va_up (va_up (va_up (va_up (va_up (va_up (va_up (va_up (va_up (va_up (va_up (va_up (va_up (va_up (va_up (va_up (va_up (va_up (va_up (va_up (va_up (va_up (va_up (va_up (va_up (va_up (va_up (va_up (va_up (va_up (va_up (va_up (va_up (va_up (va_up (va_up (va_up (va_up (va_up (va_up (va_up (va_up (va_up (va_up (va_up (va_up (va_up h 1 (.inl (cp_cC G, 80, .inl (fun _ => 0)))) 0 (.inr (0, (va_up g0 0 (.ref (cp_b G + 1)))))) 0 (.inr (0, (va_up (va_up g0 0 (.ref (cp_b G + 1))) 1 (.int 0))))) 2 (.inl (cp_cC G, 100, .inl (fun _ => 0)))) 0 (.inr (0, (va_up (va_up (va_up g0 0 (.ref (cp_b G + 1))) 1 (.int 0)) 2 (.ref (cp_b G + 2)))))) 0 (.inr (0, (va_up (va_up (va_up (va_up g0 0 (.ref (cp_b G + 1))) 1 (.int 0)) 2 (.ref (cp_b G + 2))) 3 (.int 0))))) 3 (.inr (1, (fun k => defaultValue (cp_ty 1 k))))) 4 (.inl (cp_cE G, 26, .inr (.inr (.inr (.inr (fun _ => none))))))) 3 (.inr (1, (va_up (fun k => defaultValue (cp_ty 1 k)) 0 (.ref (cp_b G + 4)))))) 5 (.inl (cp_cC G, 26, .inl (fun _ => 0)))) 3 (.inr (1, (va_up (va_up (fun k => defaultValue (cp_ty 1 k)) 0 (.ref (cp_b G + 4))) 1 (.ref (cp_b G + 5)))))) 3 (.inr (1, (va_up (va_up (va_up (fun k => defaultValue (cp_ty 1 k)) 0 (.ref (cp_b G + 4))) 1 (.ref (cp_b G + 5))) 2 (.int 0))))) 0 (.inr (0, (va_up (va_up (va_up (va_up (va_up g0 0 (.ref (cp_b G + 1))) 1 (.int 0)) 2 (.ref (cp_b G + 2))) 3 (.int 0)) 4 (.ref (cp_b G + 3)))))) 6 (.inr (2, (fun k => defaultValue (cp_ty 2 k))))) 7 (.inr (3, (fun k => defaultValue (cp_ty 3 k))))) 8 (.inl (cp_cI G, 512, .inl (fun _ => 0)))) 7 (.inr (3, (va_up (fun k => defaultValue (cp_ty 3 k)) 0 (.ref (cp_b G + 8)))))) 7 (.inr (3, (va_up (va_up (fun k => defaultValue (cp_ty 3 k)) 0 (.ref (cp_b G + 8))) 1 (.int 0))))) 6 (.inr (2, (va_up (fun k => defaultValue (cp_ty 2 k)) 0 (.ref (cp_b G + 7)))))) 9 (.inr (3, (fun k => defaultValue (cp_ty 3 k))))) 10 (.inl (cp_cI G, 64, .inl (fun _ => 0)))) 9 (.inr (3, (va_up (fun k => defaultValue (cp_ty 3 k)) 0 (.ref (cp_b G + 10)))))) 9 (.inr (3, (va_up (va_up (fun k => defaultValue (cp_ty 3 k)) 0 (.ref (cp_b G + 10))) 1 (.int 0))))) 6 (.inr (2, (va_up (va_up (fun k => defaultValue (cp_ty 2 k)) 0 (.ref (cp_b G + 7))) 1 (.ref (cp_b G + 9)))))) 11 (.inr (3, (fun k => defaultValue (cp_ty 3 k))))) 12 (.inl (cp_cI G, 64, .inl (fun _ => 0)))) 11 (.inr (3, (va_up (fun k => defaultValue (cp_ty 3 k)) 0 (.ref (cp_b G + 12)))))) 11 (.inr (3, (va_up (va_up (fun k => defaultValue (cp_ty 3 k)) 0 (.ref (cp_b G + 12))) 1 (.int 0))))) 6 (.inr (2, (va_up (va_up (va_up (fun k => defaultValue (cp_ty 2 k)) 0 (.ref (cp_b G + 7))) 1 (.ref (cp_b G + 9))) 2 (.ref (cp_b G + 11)))))) 13 (.inl (cp_cC G, 101, .inl (fun _ => 0)))) 6 (.inr (2, (va_up (va_up (va_up (va_up (fun k => defaultValue (cp_ty 2 k)) 0 (.ref (cp_b G + 7))) 1 (.ref (cp_b G + 9))) 2 (.ref (cp_b G + 11))) 3 (.ref (cp_b G + 13)))))) 6 (.inr (2, (va_up (va_up (va_up (va_up (va_up (fun k => defaultValue (cp_ty 2 k)) 0 (.ref (cp_b G + 7))) 1 (.ref (cp_b G + 9))) 2 (.ref (cp_b G + 11))) 3 (.ref (cp_b G + 13))) 4 (.int 0))))) 0 (.inr (0, (va_up (va_up (va_up (va_up (va_up (va_up g0 0 (.ref (cp_b G + 1))) 1 (.int 0)) 2 (.ref (cp_b G + 2))) 3 (.int 0)) 4 (.ref (cp_b G + 3))) 5 (.ref (cp_b G + 6)))))) 14 (.inr (4, (fun k => defaultValue (cp_ty 4 k))))) 15 (.inr (3, (fun k => defaultValue (cp_ty 3 k))))) 16 (.inl (cp_cI G, 64, .inl (fun _ => 0)))) 15 (.inr (3, (va_up (fun k => defaultValue (cp_ty 3 k)) 0 (.ref (cp_b G + 16)))))) 15 (.inr (3, (va_up (va_up (fun k => defaultValue (cp_ty 3 k)) 0 (.ref (cp_b G + 16))) 1 (.int 0))))) 14 (.inr (4, (va_up (fun k => defaultValue (cp_ty 4 k)) 0 (.ref (cp_b G + 15)))))) 17 (.inr (3, (fun k => defaultValue (cp_ty 3 k))))) 18 (.inl (cp_cI G, 64, .inl (fun _ => 0)))) 17 (.inr (3, (va_up (fun k => defaultValue (cp_ty 3 k)) 0 (.ref (cp_b G + 18)))))) 17 (.inr (3, (va_up (va_up (fun k => defaultValue (cp_ty 3 k)) 0 (.ref (cp_b G + 18))) 1 (.int 0))))) 14 (.inr (4, (va_up (va_up (fun k => defaultValue (cp_ty 4 k)) 0 (.ref (cp_b G + 15))) 1 (.ref (cp_b G + 17)))))) 19 (.inr (3, (fun k => defaultValue (cp_ty 3 k))))) 20 (.inl (cp_cI G, 64, .inl (fun _ => 0)))) 19 (.inr (3, (va_up (fun k => defaultValue (cp_ty 3 k)) 0 (.ref (cp_b G + 20)))))) 19 (.inr (3, (va_up (va_up (fun k => defaultValue (cp_ty 3 k)) 0 (.ref (cp_b G + 20))) 1 (.int 0))))) 14 (.inr (4, (va_up (va_up (va_up (fun k => defaultValue (cp_ty 4 k)) 0 (.ref (cp_b G + 15))) 1 (.ref (cp_b G + 17))) 2 (.ref (cp_b G + 19)))))) 0 (.inr (0, (va_up (va_up (va_up (va_up (va_up (va_up (va_up g0 0 (.ref (cp_b G + 1))) 1 (.int 0)) 2 (.ref (cp_b G + 2))) 3 (.int 0)) 4 (.ref (cp_b G + 3))) 5 (.ref (cp_b G + 6))) 6 (.ref (cp_b G + 14)))))) 21 (.inr (5, (fun k => defaultValue (cp_ty 5 k))))) 22 (.inl (cp_cC G, 0, .inl (fun _ => 0)))) 21 (.inr (5, (va_up (fun k => defaultValue (cp_ty 5 k)) 0 (.ref (cp_b G + 22)))))) 21 (.inr (5, (va_up (va_up (fun k => defaultValue (cp_ty 5 k)) 0 (.ref (cp_b G + 22))) 1 (.int 0))))) 21 (.inr (5, (va_up (va_up (va_up (fun k => defaultValue (cp_ty 5 k)) 0 (.ref (cp_b G + 22))) 1 (.int 0)) 2 (.int 0))))) 0 (.inr (0, (va_up (va_up (va_up (va_up (va_up (va_up (va_up (va_up g0 0 (.ref (cp_b G + 1))) 1 (.int 0)) 2 (.ref (cp_b G + 2))) 3 (.int 0)) 4 (.ref (cp_b G + 3))) 5 (.ref (cp_b G + 6))) 6 (.ref (cp_b G + 14))) 7 (.ref (cp_b G + 21)))))) 23 (.inr (6, (fun k => defaultValue (cp_ty 6 k))))) 23 (.inr (6, (va_up (fun k => defaultValue (cp_ty 6 k)) 0 (.ref (cp_b G + 3)))))) 23 (.inr (6, (va_up (va_up (fun k => defaultValue (cp_ty 6 k)) 0 (.ref (cp_b G + 3))) 1 (.ref (cp_b G + 6)))))) 23 (.inr (6, (va_up (va_up (va_up (fun k => defaultValue (cp_ty 6 k)) 0 (.ref (cp_b G + 3))) 1 (.ref (cp_b G + 6))) 2 (.ref (cp_b G + 14)))))) 23 (.inr (6, (va_up (va_up (va_up (va_up (fun k => defaultValue (cp_ty 6 k)) 0 (.ref (cp_b G + 3))) 1 (.ref (cp_b G + 6))) 2 (.ref (cp_b G + 14))) 3 (.int 0))))) 23 (.inr (6, (va_up (va_up (va_up (va_up (va_up (fun k => defaultValue (cp_ty 6 k)) 0 (.ref (cp_b G + 3))) 1 (.ref (cp_b G + 6))) 2 (.ref (cp_b G + 14))) 3 (.int 0)) 4 (.int 0))))) 0 (.inr (0, (va_up (va_up (va_up (va_up (va_up (va_up (va_up (va_up (va_up g0 0 (.ref (cp_b G + 1))) 1 (.int 0)) 2 (.ref (cp_b G + 2))) 3 (.int 0)) 4 (.ref (cp_b G + 3))) 5 (.ref (cp_b G + 6))) 6 (.ref (cp_b G + 14))) 7 (.ref (cp_b G + 21))) 8 (.ref (cp_b G + 23)))))) 24 (.inr (7, (fun k => defaultValue (cp_ty 7 k))))) 24 (.inr (7, (va_up (fun k => defaultValue (cp_ty 7 k)) 0 (.ref (cp_b G + 3)))))) 24 (.inr (7, (va_up (va_up (fun k => defaultValue (cp_ty 7 k)) 0 (.ref (cp_b G + 3))) 1 (.ref (cp_b G + 6)))))) 24 (.inr (7, (va_up (va_up (va_up (fun k => defaultValue (cp_ty 7 k)) 0 (.ref (cp_b G + 3))) 1 (.ref (cp_b G + 6))) 2 (.ref (cp_b G + 14)))))) 24 (.inr (7, (va_up (va_up (va_up (va_up (fun k => defaultValue (cp_ty 7 k)) 0 (.ref (cp_b G + 3))) 1 (.ref (cp_b G + 6))) 2 (.ref (cp_b G + 14))) 3 (.ref (cp_b G + 23)))))) 24 (.inr (7, (va_up (va_up (va_up (va_up (va_up (fun k => defaultValue (cp_ty 7 k)) 0 (.ref (cp_b G + 3))) 1 (.ref (cp_b G + 6))) 2 (.ref (cp_b G + 14))) 3 (.ref (cp_b G + 23))) 4 (.int 0))))) 24 (.inr (7, (va_up (va_up (va_up (va_up (va_up (va_up (fun k => defaultValue (cp_ty 7 k)) 0 (.ref (cp_b G + 3))) 1 (.ref (cp_b G + 6))) 2 (.ref (cp_b G + 14))) 3 (.ref (cp_b G + 23))) 4 (.int 0)) 5 (.int 0))))) 24 (.inr (7, (va_up (va_up (va_up (va_up (va_up (va_up (va_up (fun k => defaultValue (cp_ty 7 k)) 0 (.ref (cp_b G + 3))) 1 (.ref (cp_b G + 6))) 2 (.ref (cp_b G + 14))) 3 (.ref (cp_b G + 23))) 4 (.int 0)) 5 (.int 0)) 6 (.int (-1)))))) 24 (.inr (7, (va_up (va_up (va_up (va_up (va_up (va_up (va_up (va_up (fun k => defaultValue (cp_ty 7 k)) 0 (.ref (cp_b G + 3))) 1 (.ref (cp_b G + 6))) 2 (.ref (cp_b G + 14))) 3 (.ref (cp_b G + 23))) 4 (.int 0)) 5 (.int 0)) 6 (.int (-1))) 7 (.int (-1)))))) 0 (.inr (0, (va_up (va_up (va_up (va_up (va_up (va_up (va_up (va_up (va_up (va_up g0 0 (.ref (cp_b G + 1))) 1 (.int 0)) 2 (.ref (cp_b G + 2))) 3 (.int 0)) 4 (.ref (cp_b G + 3))) 5 (.ref (cp_b G + 6))) 6 (.ref (cp_b G + 14))) 7 (.ref (cp_b G + 21))) 8 (.ref (cp_b G + 23))) 9 (.ref (cp_b G + 24)))))) 25 (.inr (8, (fun k => defaultValue (cp_ty 8 k))))) 25 (.inr (8, (va_up (fun k => defaultValue (cp_ty 8 k)) 0 (.ref (cp_b G + 3)))))) 25 (.inr (8, (va_up (va_up (fun k => defaultValue (cp_ty 8 k)) 0 (.ref (cp_b G + 3))) 1 (.ref (cp_b G + 14)))))) 0 (.inr (0, (va_up (va_up (va_up (va_up (va_up (va_up (va_up (va_up (va_up (va_up (va_up g0 0 (.ref (cp_b G + 1))) 1 (.int 0)) 2 (.ref (cp_b G + 2))) 3 (.int 0)) 4 (.ref (cp_b G + 3))) 5 (.ref (cp_b G + 6))) 6 (.ref (cp_b G + 14))) 7 (.ref (cp_b G + 21))) 8 (.ref (cp_b G + 23))) 9 (.ref (cp_b G + 24))) 10 (.ref (cp_b G + 25)))))) 0 (.inr (0, (va_up (va_up (va_up (va_up (va_up (va_up (va_up (va_up (va_up (va_up (va_up (va_up g0 0 (.ref (cp_b G + 1))) 1 (.int 0)) 2 (.ref (cp_b G + 2))) 3 (.int 0)) 4 (.ref (cp_b G + 3))) 5 (.ref (cp_b G + 6))) 6 (.ref (cp_b G + 14))) 7 (.ref (cp_b G + 21))) 8 (.ref (cp_b G + 23))) 9 (.ref (cp_b G + 24))) 10 (.ref (cp_b G + 25))) 11 (.null))))) 0 (.inr (0, (va_up (va_up (va_up (va_up (va_up (va_up (va_up (va_up (va_up (va_up (va_up (va_up (va_up g0 0 (.ref (cp_b G + 1))) 1 (.int 0)) 2 (.ref (cp_b G + 2))) 3 (.int 0)) 4 (.ref (cp_b G + 3))) 5 (.ref (cp_b G + 6))) 6 (.ref (cp_b G + 14))) 7 (.ref (cp_b G + 21))) 8 (.ref (cp_b G + 23))) 9 (.ref (cp_b G + 24))) 10 (.ref (cp_b G + 25))) 11 (.null)) 12 (.int 0))))) 26 (z + 1206) := by
  refine cp_C.of rfl (Nat.le_of_ble_eq_true rfl) ?_
  refine vv_aload_n (pc := 0) d_P_init_0 rfl ?_
  refine vv_obj (pc := 1) d_P_init_1 ol_P_1 cp_oi cp_oc (by omega) (Nat.le_of_ble_eq_true rfl) ?_
  refine vv_aload_n (pc := 4) d_P_init_4 rfl ?_
  refine vv_bipush (pc := 5) (v := 80) d_P_init_5 rfl ?_
  refine vv_newaC (pc := 7) (N := 80) d_P_init_7 cp_arC (by decide +kernel) (by decide +kernel) (by decide +kernel) ?_
  refine vv_putF (pc := 9) d_P_init_9 fl_P_9 (by decide) H0 rfl rfl rfl rfl rfl ?_
  refine vv_aload_n (pc := 12) d_P_init_12 rfl ?_
  refine vv_iconst (pc := 13) (v := 0) d_P_init_13 rfl ?_
  refine vv_putf (pc := 14) d_P_init_14 fl_P_13 (by decide) rfl rfl rfl rfl ?_
  refine vv_aload_n (pc := 17) d_P_init_17 rfl ?_
  refine vv_bipush (pc := 18) (v := 100) d_P_init_18 rfl ?_
  refine vv_newaC (pc := 20) (N := 100) d_P_init_20 cp_arC (by decide +kernel) (by decide +kernel) (by decide +kernel) ?_
  refine vv_putF (pc := 22) d_P_init_22 fl_P_17 (by decide) rfl rfl rfl rfl rfl rfl ?_
  refine vv_aload_n (pc := 25) d_P_init_25 rfl ?_
  refine vv_iconst (pc := 26) (v := 0) d_P_init_26 rfl ?_
  refine vv_putf (pc := 27) d_P_init_27 fl_P_20 (by decide) rfl rfl rfl rfl ?_
  refine vv_aload_n (pc := 30) d_P_init_30 rfl ?_
  refine vv_new (pc := 31) (N := 3) d_P_init_31 cp_ok1 cl_P_23 rfl ?_
  refine vv_dup (pc := 34) d_P_init_34 rfl ?_
  refine vv_callI (pc := 35) (As := []) d_P_init_35 (x_D_init (d := d - 1) (by omega) rfl) k_D_init ml_P_25.1 ml_P_25.2.1 ml_P_25.2.2.1 ml_P_25.2.2.2 (by omega) (Nat.le_of_ble_eq_true rfl) ?_
  refine vv_putF (pc := 38) d_P_init_38 fl_P_26 (by decide) rfl rfl rfl rfl rfl rfl ?_
  refine vv_aload_n (pc := 41) d_P_init_41 rfl ?_
  refine vv_new (pc := 42) (N := 5) d_P_init_42 cp_ok2 cl_P_30 rfl ?_
  refine vv_dup (pc := 45) d_P_init_45 rfl ?_
  refine vv_callI (pc := 46) (As := []) d_P_init_46 (x_V_init (d := d - 1) (by omega) rfl) k_V_init ml_P_32.1 ml_P_32.2.1 ml_P_32.2.2.1 ml_P_32.2.2.2 (by omega) (Nat.le_of_ble_eq_true rfl) ?_
  refine vv_putF (pc := 49) d_P_init_49 fl_P_33 (by decide) rfl rfl rfl rfl rfl rfl ?_
  refine vv_aload_n (pc := 52) d_P_init_52 rfl ?_
  refine vv_new (pc := 53) (N := 3) d_P_init_53 cp_ok4 cl_P_37 rfl ?_
  refine vv_dup (pc := 56) d_P_init_56 rfl ?_
  refine vv_callI (pc := 57) (As := []) d_P_init_57 (x_B_init (d := d - 1) (by omega) rfl) k_B_init ml_P_39.1 ml_P_39.2.1 ml_P_39.2.2.1 ml_P_39.2.2.2 (by omega) (Nat.le_of_ble_eq_true rfl) ?_
  refine vv_putF (pc := 60) d_P_init_60 fl_P_40 (by decide) rfl rfl rfl rfl rfl rfl ?_
  refine vv_aload_n (pc := 63) d_P_init_63 rfl ?_
  refine vv_new (pc := 64) (N := 3) d_P_init_64 cp_ok5 cl_P_44 rfl ?_
  refine vv_dup (pc := 67) d_P_init_67 rfl ?_
  refine vv_callI (pc := 68) (As := []) d_P_init_68 (x_Q_init (d := d - 1) (by omega) rfl) k_Q_init ml_P_46.1 ml_P_46.2.1 ml_P_46.2.2.1 ml_P_46.2.2.2 (by omega) (Nat.le_of_ble_eq_true rfl) ?_
  refine vv_putF (pc := 71) d_P_init_71 fl_P_47 (by decide) rfl rfl rfl rfl rfl rfl ?_
  refine vv_aload_n (pc := 74) d_P_init_74 rfl ?_
  refine vv_new (pc := 75) (N := 5) d_P_init_75 cp_ok6 cl_P_51 rfl ?_
  refine vv_dup (pc := 78) d_P_init_78 rfl ?_
  refine vv_aload_n (pc := 79) d_P_init_79 rfl ?_
  refine vv_getf (pc := 80) d_P_init_80 fl_P_26 (by decide) rfl rfl ?_
  refine vv_aload_n (pc := 83) d_P_init_83 rfl ?_
  refine vv_getf (pc := 84) d_P_init_84 fl_P_33 (by decide) rfl rfl ?_
  refine vv_aload_n (pc := 87) d_P_init_87 rfl ?_
  refine vv_getf (pc := 88) d_P_init_88 fl_P_40 (by decide) rfl rfl ?_
  refine vv_callI (pc := 91) (As := [.ref (cp_b G + 3), .ref (cp_b G + 6), .ref (cp_b G + 14)]) d_P_init_91 (x_U_init (d := d - 1) (by omega) rfl) k_U_init ml_P_53.1 ml_P_53.2.1 ml_P_53.2.2.1 ml_P_53.2.2.2 (by omega) (Nat.le_of_ble_eq_true rfl) ?_
  refine vv_putF (pc := 94) d_P_init_94 fl_P_56 (by decide) rfl rfl rfl rfl rfl rfl ?_
  refine vv_aload_n (pc := 97) d_P_init_97 rfl ?_
  refine vv_new (pc := 98) (N := 8) d_P_init_98 cp_ok7 cl_P_60 rfl ?_
  refine vv_dup (pc := 101) d_P_init_101 rfl ?_
  refine vv_aload_n (pc := 102) d_P_init_102 rfl ?_
  refine vv_getf (pc := 103) d_P_init_103 fl_P_26 (by decide) rfl rfl ?_
  refine vv_aload_n (pc := 106) d_P_init_106 rfl ?_
  refine vv_getf (pc := 107) d_P_init_107 fl_P_33 (by decide) rfl rfl ?_
  refine vv_aload_n (pc := 110) d_P_init_110 rfl ?_
  refine vv_getf (pc := 111) d_P_init_111 fl_P_40 (by decide) rfl rfl ?_
  refine vv_aload_n (pc := 114) d_P_init_114 rfl ?_
  refine vv_getf (pc := 115) d_P_init_115 fl_P_56 (by decide) rfl rfl ?_
  refine vv_callI (pc := 118) (As := [.ref (cp_b G + 3), .ref (cp_b G + 6), .ref (cp_b G + 14), .ref (cp_b G + 23)]) d_P_init_118 (x_T_init (d := d - 1) (by omega) rfl) k_T_init ml_P_62.1 ml_P_62.2.1 ml_P_62.2.2.1 ml_P_62.2.2.2 (by omega) (Nat.le_of_ble_eq_true rfl) ?_
  refine vv_putF (pc := 121) d_P_init_121 fl_P_65 (by decide) rfl rfl rfl rfl rfl rfl ?_
  refine vv_aload_n (pc := 124) d_P_init_124 rfl ?_
  refine vv_new (pc := 125) (N := 2) d_P_init_125 cp_ok8 cl_P_69 rfl ?_
  refine vv_dup (pc := 128) d_P_init_128 rfl ?_
  refine vv_aload_n (pc := 129) d_P_init_129 rfl ?_
  refine vv_getf (pc := 130) d_P_init_130 fl_P_26 (by decide) rfl rfl ?_
  refine vv_aload_n (pc := 133) d_P_init_133 rfl ?_
  refine vv_getf (pc := 134) d_P_init_134 fl_P_40 (by decide) rfl rfl ?_
  refine vv_callI (pc := 137) (As := [.ref (cp_b G + 3), .ref (cp_b G + 14)]) d_P_init_137 (x_I_init (d := d - 1) (by omega) rfl) k_I_init ml_P_71.1 ml_P_71.2.1 ml_P_71.2.2.1 ml_P_71.2.2.2 (by omega) (Nat.le_of_ble_eq_true rfl) ?_
  refine vv_putF (pc := 140) d_P_init_140 fl_P_74 (by decide) rfl rfl rfl rfl rfl rfl ?_
  refine vv_aload_n (pc := 143) d_P_init_143 rfl ?_
  refine vv_null (pc := 144) d_P_init_144 ?_
  refine vv_putf (pc := 145) d_P_init_145 fl_P_78 (by decide) rfl rfl rfl rfl ?_
  refine vv_aload_n (pc := 148) d_P_init_148 rfl ?_
  refine vv_iconst (pc := 149) (v := 0) d_P_init_149 rfl ?_
  refine vv_putf (pc := 150) d_P_init_150 fl_P_82 (by decide) rfl rfl rfl rfl ?_
  exact vv_vret (pc := 153) d_P_init_153 rfl
