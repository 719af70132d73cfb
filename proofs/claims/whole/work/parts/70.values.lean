/-! ===== Values and the rest (printed by cxc.py) ===== -/
def wp_B_valueOf_0 (D : Nat) (o : cp_G → cp_O) (K' K : cp_K) (x1 : Int32) (x2 : Int32) : Prop := ∃ r3 T1, KC (D + 7) m_B_indexOf (fun G => [.ref (cp_b G + 14), .int x1, .int x2, .int (nI (rsz K 15))]) K (fun _ => some (.int r3)) T1 ∧ (o = (fun _ => .inl (some (.int (rget T1 17 r3)))) ∧ K' = T1)
theorem b_B_valueOf_0 {D : Nat} {o : cp_G → cp_O} {K' K : cp_K} {x1 : Int32} {x2 : Int32} (w : wp_B_valueOf_0 D o K' K x1 x2) : JC (D + 8) m_B_valueOf o K' 0 (fun G => [(0, .ref (cp_b G + 14)), (1, .int x1), (2, .int x2)]) (fun _ => []) K := by
  unfold wp_B_valueOf_0 at w
  intro G H d n0 z0 hd
  show kV G H m_B_valueOf d n0 z0 (o G) K' 0 [(0, .ref (cp_b G + 14)), (1, .int x1), (2, .int x2)] [] K
  refine kv_p (fun _ _ _ _ _ _ v => vv_aload_n (pc := 0) d_B_valueOf_0 rfl v) ?_
  refine kw_gf (pc := 1) 17 d_B_valueOf_1 fl_B_20 (Or.inl ⟨by decide, rfl⟩) rfl (by decide) ?_
  refine kv_p (fun _ _ _ _ _ _ v => vv_aload_n (pc := 4) d_B_valueOf_4 rfl v) ?_
  refine kv_p (fun _ _ _ _ _ _ v => vv_iload_n (pc := 5) d_B_valueOf_5 rfl v) ?_
  refine kv_p (fun _ _ _ _ _ _ v => vv_iload_n (pc := 6) d_B_valueOf_6 rfl v) ?_
  refine kv_p (fun _ _ _ _ _ _ v => vv_aload_n (pc := 7) d_B_valueOf_7 rfl v) ?_
  refine kw_gf (pc := 8) 15 d_B_valueOf_8 fl_B_14 (Or.inl ⟨by decide, rfl⟩) rfl (by decide) ?_
  refine kw_cr (pc := 11) (As := []) (As0 := (fun G => [.ref (cp_b G + 15)])) d_B_valueOf_11 (K_size (by decide)) rfl k_R_size ml_B_26 (by decide) (by omega) (Nat.le_of_ble_eq_true rfl) ?_
  obtain ⟨r3, T1, c2, w⟩ := w
  refine kw_cv (pc := 14) (As := [.int x1, .int x2, .int (nI (rsz K 15))]) d_B_valueOf_14 c2 rfl k_B_indexOf ml_B_47 (Or.inl ⟨by decide, rfl⟩) (by omega) (Nat.le_of_ble_eq_true rfl) ?_
  refine kw_cr (pc := 17) (As := [.int r3]) (As0 := (fun G => [.ref (cp_b G + 17), .int r3])) d_B_valueOf_17 (K_get (by decide)) rfl k_R_get ml_B_43 (by decide) (by omega) (Nat.le_of_ble_eq_true rfl) ?_
  obtain ⟨rfl, rfl⟩ := w
  exact kv_e (fun _ _ => vv_iret (pc := 20) d_B_valueOf_20 rfl)
theorem c_B_valueOf {D : Nat} {o : cp_G → Option Value} {K' K : cp_K} {x1 : Int32} {x2 : Int32} (w : wp_B_valueOf_0 D (fun G => .inl (o G)) K' K x1 x2) : KC (D + 8) m_B_valueOf (fun G => [.ref (cp_b G + 14), .int x1, .int x2]) K o K' := KC.of2 rfl (fun G => by exact ⟨Nat.le_of_ble_eq_true rfl, rfl⟩) (b_B_valueOf_0 w)
def wp_E_init_0 (D : Nat) (o : cp_G → cp_O) (K' K : cp_K) (p0 : Nat) (x1 : Int32) (x2 : Int32) (p3 : Nat) : Prop := nd K p0 10 ∧ (narrow (cp_ty 10 0) (.int x1) = .int x1 ∧ fits (cp_ty 10 0) (.int x1) = true) ∧ (narrow (cp_ty 10 1) (.int x2) = .int x2 ∧ fits (cp_ty 10 1) (.int x2) = true) ∧ (((x2 : Int32) = 0 → nd K p3 9 ∧ ∃ r7 T5, KC (D + 7) m_N_countOf (fun G => [va_rf (kr G p3), .int 14]) (kP (kI (kI K p0 0 x1) p0 1 x2) p0 4 p3) (fun _ => some (.int r7)) T5 ∧ nd T5 p0 10 ∧ ((¬ (x2 : Int32) = 0 → (o = (fun _ => .inl none) ∧ K' = (kI (kI T5 p0 2 r7) p0 3 0))) ∧ ((x2 : Int32) = 0 → nd T5 p3 9 ∧ ∃ r12 T10, KC (D + 7) m_N_countOf (fun G => [va_rf (kr G p3), .int 15]) (kI T5 p0 2 r7) (fun _ => some (.int r12)) T10 ∧ (((r12 : Int32) ≤ 0 → nd T10 p0 10 ∧ (o = (fun _ => .inl none) ∧ K' = (kI T10 p0 3 0))) ∧ (¬ (r12 : Int32) ≤ 0 → nd T10 p0 10 ∧ (o = (fun _ => .inl none) ∧ K' = (kI T10 p0 3 1))))))) ∧ (¬ (x2 : Int32) = 0 → nd K p3 9 ∧ ((¬ (x2 : Int32) = 0 → (o = (fun _ => .inl none) ∧ K' = (kI (kI (kP (kI (kI K p0 0 x1) p0 1 x2) p0 4 p3) p0 2 (((kP (kI (kI K p0 0 x1) p0 1 x2) p0 4 p3).2.1 p3 3) - 1)) p0 3 0))) ∧ ((x2 : Int32) = 0 → ∃ r18 T16, KC (D + 7) m_N_countOf (fun G => [va_rf (kr G p3), .int 15]) (kI (kP (kI (kI K p0 0 x1) p0 1 x2) p0 4 p3) p0 2 (((kP (kI (kI K p0 0 x1) p0 1 x2) p0 4 p3).2.1 p3 3) - 1)) (fun _ => some (.int r18)) T16 ∧ (((r18 : Int32) ≤ 0 → nd T16 p0 10 ∧ (o = (fun _ => .inl none) ∧ K' = (kI T16 p0 3 0))) ∧ (¬ (r18 : Int32) ≤ 0 → nd T16 p0 10 ∧ (o = (fun _ => .inl none) ∧ K' = (kI T16 p0 3 1))))))))
theorem b_E_init_0 {D : Nat} {o : cp_G → cp_O} {K' K : cp_K} {p0 : Nat} {x1 : Int32} {x2 : Int32} {p3 : Nat} (w : wp_E_init_0 D o K' K p0 x1 x2 p3) : JC (D + 8) m_E_init o K' 0 (fun G => [(0, va_rf (kr G p0)), (1, .int x1), (2, .int x2), (3, va_rf (kr G p3))]) (fun _ => []) K := by
  unfold wp_E_init_0 at w
  intro G H d n0 z0 hd
  show kV G H m_E_init d n0 z0 (o G) K' 0 [(0, va_rf (kr G p0)), (1, .int x1), (2, .int x2), (3, va_rf (kr G p3))] [] K
  refine kv_p (fun _ _ _ _ _ _ v => vv_aload_nr (pc := 0) d_E_init_0 (cp_isr_rf (kr G p0)) rfl v) ?_
  obtain ⟨b1, w⟩ := w
  refine kw_obj (pc := 1) d_E_init_1 ol_E_3 b1 (by omega) (Nat.le_of_ble_eq_true rfl) ?_
  refine kv_p (fun _ _ _ _ _ _ v => vv_aload_nr (pc := 4) d_E_init_4 (cp_isr_rf (kr G p0)) rfl v) ?_
  refine kv_p (fun _ _ _ _ _ _ v => vv_iload_n (pc := 5) d_E_init_5 rfl v) ?_
  obtain ⟨b2, w⟩ := w
  refine kw_piF (pc := 6) d_E_init_6 fl_E_9 b1 rfl rfl rfl rfl rfl b2.1 b2.2 ?_
  refine kv_p (fun _ _ _ _ _ _ v => vv_aload_nr (pc := 9) d_E_init_9 (cp_isr_rf (kr G p0)) rfl v) ?_
  refine kv_p (fun _ _ _ _ _ _ v => vv_iload_n (pc := 10) d_E_init_10 rfl v) ?_
  obtain ⟨b3, w⟩ := w
  refine kw_piF (pc := 11) d_E_init_11 fl_E_15 (nd_kI b1) rfl rfl rfl rfl rfl b3.1 b3.2 ?_
  refine kv_p (fun _ _ _ _ _ _ v => vv_aload_nr (pc := 14) d_E_init_14 (cp_isr_rf (kr G p0)) rfl v) ?_
  refine kv_p (fun _ _ _ _ _ _ v => vv_aload_nr (pc := 15) d_E_init_15 (cp_isr_rf (kr G p3)) rfl v) ?_
  refine kw_prF (pc := 16) (q := p3) d_E_init_16 fl_E_19 (nd_kI (nd_kI b1)) rfl rfl rfl rfl rfl krf_10_4 ?_
  refine kv_p (fun _ _ _ _ _ _ v => vv_aload_nr (pc := 19) d_E_init_19 (cp_isr_rf (kr G p0)) rfl v) ?_
  refine kv_p (fun _ _ _ _ _ _ v => vv_iload_n (pc := 20) d_E_init_20 rfl v) ?_
  by_cases hc : (x2 : Int32) = 0
  · replace w := w.1 hc
    refine kv_p (fun _ _ _ _ _ _ v => vv_if_eq (pc := 21) (tgt := 33) d_E_init_21 rfl (fun _ => v) (fun hn => absurd hc hn)) ?_
    refine kv_p (fun _ _ _ _ _ _ v => vv_aload_nr (pc := 33) d_E_init_33 (cp_isr_rf (kr G p3)) rfl v) ?_
    refine kv_p (fun _ _ _ _ _ _ v => vv_bipush (pc := 34) (v := 14) d_E_init_34 rfl v) ?_
    obtain ⟨b4, w⟩ := w
    obtain ⟨r7, T5, c6, w⟩ := w
    refine kw_cn (pc := 36) (As := [.int 14]) d_E_init_36 c6 rfl k_N_countOf ml_E_29 (nd_kP (nd_kI (nd_kI b4))) (by omega) (by cases kr G p0 <;> exact Nat.le_of_ble_eq_true rfl) ?_
    obtain ⟨b8, w⟩ := w
    refine kw_piF (pc := 39) d_E_init_39 fl_E_33 b8 rfl rfl rfl rfl rfl rfl rfl ?_
    refine kv_p (fun _ _ _ _ _ _ v => vv_aload_nr (pc := 42) d_E_init_42 (cp_isr_rf (kr G p0)) rfl v) ?_
    refine kv_p (fun _ _ _ _ _ _ v => vv_iload_n (pc := 43) d_E_init_43 rfl v) ?_
    by_cases hc : (x2 : Int32) = 0
    · replace w := w.2 hc
      refine kv_p (fun _ _ _ _ _ _ v => vv_if_ne (pc := 44) (tgt := 60) d_E_init_44 rfl (fun hn => absurd hc hn) (fun _ => v)) ?_
      refine kv_p (fun _ _ _ _ _ _ v => vv_aload_nr (pc := 47) d_E_init_47 (cp_isr_rf (kr G p3)) rfl v) ?_
      refine kv_p (fun _ _ _ _ _ _ v => vv_bipush (pc := 48) (v := 15) d_E_init_48 rfl v) ?_
      obtain ⟨b9, w⟩ := w
      obtain ⟨r12, T10, c11, w⟩ := w
      refine kw_cn (pc := 50) (As := [.int 15]) d_E_init_50 c11 rfl k_N_countOf ml_E_29 (nd_kI b9) (by omega) (by cases kr G p0 <;> exact Nat.le_of_ble_eq_true rfl) ?_
      by_cases hc : (r12 : Int32) ≤ 0
      · replace w := w.1 hc
        refine kv_p (fun _ _ _ _ _ _ v => vv_if_le (pc := 53) (tgt := 60) d_E_init_53 rfl (fun _ => v) (fun hn => absurd hc hn)) ?_
        refine kv_p (fun _ _ _ _ _ _ v => vv_iconst (pc := 60) (v := 0) d_E_init_60 rfl v) ?_
        obtain ⟨b13, w⟩ := w
        refine kw_piF (pc := 61) d_E_init_61 fl_E_36 b13 rfl rfl rfl rfl rfl rfl rfl ?_
        obtain ⟨rfl, rfl⟩ := w
        exact kv_e (fun _ _ => vv_vret (pc := 64) d_E_init_64 rfl)
      · replace w := w.2 hc
        refine kv_p (fun _ _ _ _ _ _ v => vv_if_le (pc := 53) (tgt := 60) d_E_init_53 rfl (fun hn => absurd hn hc) (fun _ => v)) ?_
        refine kv_p (fun _ _ _ _ _ _ v => vv_iconst (pc := 56) (v := 1) d_E_init_56 rfl v) ?_
        refine kv_p (fun _ _ _ _ _ _ v => vv_goto (pc := 57) (tgt := 61) d_E_init_57 rfl v) ?_
        obtain ⟨b14, w⟩ := w
        refine kw_piF (pc := 61) d_E_init_61 fl_E_36 b14 rfl rfl rfl rfl rfl rfl rfl ?_
        obtain ⟨rfl, rfl⟩ := w
        exact kv_e (fun _ _ => vv_vret (pc := 64) d_E_init_64 rfl)
    · replace w := w.1 hc
      refine kv_p (fun _ _ _ _ _ _ v => vv_if_ne (pc := 44) (tgt := 60) d_E_init_44 rfl (fun _ => v) (fun hn => absurd hn hc)) ?_
      refine kv_p (fun _ _ _ _ _ _ v => vv_iconst (pc := 60) (v := 0) d_E_init_60 rfl v) ?_
      refine kw_piF (pc := 61) d_E_init_61 fl_E_36 (nd_kI b8) rfl rfl rfl rfl rfl rfl rfl ?_
      obtain ⟨rfl, rfl⟩ := w
      exact kv_e (fun _ _ => vv_vret (pc := 64) d_E_init_64 rfl)
  · replace w := w.2 hc
    refine kv_p (fun _ _ _ _ _ _ v => vv_if_eq (pc := 21) (tgt := 33) d_E_init_21 rfl (fun hn => absurd hn hc) (fun _ => v)) ?_
    refine kv_p (fun _ _ _ _ _ _ v => vv_aload_nr (pc := 24) d_E_init_24 (cp_isr_rf (kr G p3)) rfl v) ?_
    obtain ⟨b15, w⟩ := w
    refine kw_giN (pc := 25) d_E_init_25 fl_E_23 (nd_kP (nd_kI (nd_kI b15))) rfl rfl ?_
    refine kv_p (fun _ _ _ _ _ _ v => vv_iconst (pc := 28) (v := 1) d_E_init_28 rfl v) ?_
    refine kv_p (fun _ _ _ _ _ _ v => vv_isub (pc := 29) d_E_init_29 v) ?_
    refine kv_p (fun _ _ _ _ _ _ v => vv_goto (pc := 30) (tgt := 39) d_E_init_30 rfl v) ?_
    refine kw_piF (pc := 39) d_E_init_39 fl_E_33 (nd_kP (nd_kI (nd_kI b1))) rfl rfl rfl rfl rfl rfl rfl ?_
    refine kv_p (fun _ _ _ _ _ _ v => vv_aload_nr (pc := 42) d_E_init_42 (cp_isr_rf (kr G p0)) rfl v) ?_
    refine kv_p (fun _ _ _ _ _ _ v => vv_iload_n (pc := 43) d_E_init_43 rfl v) ?_
    by_cases hc : (x2 : Int32) = 0
    · replace w := w.2 hc
      refine kv_p (fun _ _ _ _ _ _ v => vv_if_ne (pc := 44) (tgt := 60) d_E_init_44 rfl (fun hn => absurd hc hn) (fun _ => v)) ?_
      refine kv_p (fun _ _ _ _ _ _ v => vv_aload_nr (pc := 47) d_E_init_47 (cp_isr_rf (kr G p3)) rfl v) ?_
      refine kv_p (fun _ _ _ _ _ _ v => vv_bipush (pc := 48) (v := 15) d_E_init_48 rfl v) ?_
      obtain ⟨r18, T16, c17, w⟩ := w
      refine kw_cn (pc := 50) (As := [.int 15]) d_E_init_50 c17 rfl k_N_countOf ml_E_29 (nd_kI (nd_kP (nd_kI (nd_kI b15)))) (by omega) (by cases kr G p0 <;> exact Nat.le_of_ble_eq_true rfl) ?_
      by_cases hc : (r18 : Int32) ≤ 0
      · replace w := w.1 hc
        refine kv_p (fun _ _ _ _ _ _ v => vv_if_le (pc := 53) (tgt := 60) d_E_init_53 rfl (fun _ => v) (fun hn => absurd hc hn)) ?_
        refine kv_p (fun _ _ _ _ _ _ v => vv_iconst (pc := 60) (v := 0) d_E_init_60 rfl v) ?_
        obtain ⟨b19, w⟩ := w
        refine kw_piF (pc := 61) d_E_init_61 fl_E_36 b19 rfl rfl rfl rfl rfl rfl rfl ?_
        obtain ⟨rfl, rfl⟩ := w
        exact kv_e (fun _ _ => vv_vret (pc := 64) d_E_init_64 rfl)
      · replace w := w.2 hc
        refine kv_p (fun _ _ _ _ _ _ v => vv_if_le (pc := 53) (tgt := 60) d_E_init_53 rfl (fun hn => absurd hn hc) (fun _ => v)) ?_
        refine kv_p (fun _ _ _ _ _ _ v => vv_iconst (pc := 56) (v := 1) d_E_init_56 rfl v) ?_
        refine kv_p (fun _ _ _ _ _ _ v => vv_goto (pc := 57) (tgt := 61) d_E_init_57 rfl v) ?_
        obtain ⟨b20, w⟩ := w
        refine kw_piF (pc := 61) d_E_init_61 fl_E_36 b20 rfl rfl rfl rfl rfl rfl rfl ?_
        obtain ⟨rfl, rfl⟩ := w
        exact kv_e (fun _ _ => vv_vret (pc := 64) d_E_init_64 rfl)
    · replace w := w.1 hc
      refine kv_p (fun _ _ _ _ _ _ v => vv_if_ne (pc := 44) (tgt := 60) d_E_init_44 rfl (fun _ => v) (fun hn => absurd hn hc)) ?_
      refine kv_p (fun _ _ _ _ _ _ v => vv_iconst (pc := 60) (v := 0) d_E_init_60 rfl v) ?_
      refine kw_piF (pc := 61) d_E_init_61 fl_E_36 (nd_kI (nd_kP (nd_kI (nd_kI b1)))) rfl rfl rfl rfl rfl rfl rfl ?_
      obtain ⟨rfl, rfl⟩ := w
      exact kv_e (fun _ _ => vv_vret (pc := 64) d_E_init_64 rfl)
theorem c_E_init {D : Nat} {o : cp_G → Option Value} {K' K : cp_K} {p0 : Nat} {x1 : Int32} {x2 : Int32} {p3 : Nat} (w : wp_E_init_0 D (fun G => .inl (o G)) K' K p0 x1 x2 p3) : KC (D + 8) m_E_init (fun G => [va_rf (kr G p0), .int x1, .int x2, va_rf (kr G p3)]) K o K' := KC.of2 rfl (fun G => by cases kr G p0 <;> cases kr G p3 <;> exact ⟨Nat.le_of_ble_eq_true rfl, rfl⟩) (b_E_init_0 w)
def wp_V_makeConstant_0 (D : Nat) (o : cp_G → cp_O) (K' K : cp_K) (x1 : Int32) (x3 : Int32) : Prop := rsz K 7 + 2 < k_lim 7 ∧ JC (D + 8) m_V_makeConstant o K' 33 (fun G => [(0, .ref (cp_b G + 6)), (1, .int x1), (2, .ref (cp_b G + 14)), (3, .int x3), (4, .int (nI (rsz K 7))), (5, .int ((nI (rsz (mks K 6 x1) 15)) - x3)), (6, .int 0)]) (fun _ => []) (kset (mks K 6 x1) 7 ((nI (rsz K 7)) + 2) ((nI (rsz (mks K 6 x1) 15)) - x3))
theorem b_V_makeConstant_0 {D : Nat} {o : cp_G → cp_O} {K' K : cp_K} {x1 : Int32} {x3 : Int32} (w : wp_V_makeConstant_0 D o K' K x1 x3) : JC (D + 8) m_V_makeConstant o K' 0 (fun G => [(0, .ref (cp_b G + 6)), (1, .int x1), (2, .ref (cp_b G + 14)), (3, .int x3)]) (fun _ => []) K := by
  unfold wp_V_makeConstant_0 at w
  intro G H d n0 z0 hd
  show kV G H m_V_makeConstant d n0 z0 (o G) K' 0 [(0, .ref (cp_b G + 6)), (1, .int x1), (2, .ref (cp_b G + 14)), (3, .int x3)] [] K
  refine kv_p (fun _ _ _ _ _ _ v => vv_aload_n (pc := 0) d_V_makeConstant_0 rfl v) ?_
  refine kv_p (fun _ _ _ _ _ _ v => vv_bipush (pc := 1) (v := 6) d_V_makeConstant_1 rfl v) ?_
  refine kv_p (fun _ _ _ _ _ _ v => vv_iload_n (pc := 3) d_V_makeConstant_3 rfl v) ?_
  obtain ⟨b1, w⟩ := w
  refine kw_cv (pc := 4) (As := [.int 6, .int x1]) (As0 := (fun G => [.ref (cp_b G + 6), .int 6, .int x1])) d_V_makeConstant_4 (C_VmakeSimple b1) rfl k_V_makeSimple ml_V_48 (Or.inl ⟨by decide, rfl⟩) (by omega) (Nat.le_of_ble_eq_true rfl) ?_
  refine kv_p (fun _ _ _ _ _ _ v => vv_istore (pc := 7) d_V_makeConstant_7 (Nat.le_of_ble_eq_true rfl) v) ?_
  refine kv_p (fun _ _ _ _ _ _ v => vv_aload_n (pc := 9) d_V_makeConstant_9 rfl v) ?_
  refine kw_cv (pc := 10) (As := []) (As0 := (fun G => [.ref (cp_b G + 14)])) d_V_makeConstant_10 (C_Bsize) rfl k_B_size ml_V_52 (Or.inl ⟨by decide, rfl⟩) (by omega) (Nat.le_of_ble_eq_true rfl) ?_
  refine kv_p (fun _ _ _ _ _ _ v => vv_iload_n (pc := 13) d_V_makeConstant_13 rfl v) ?_
  refine kv_p (fun _ _ _ _ _ _ v => vv_isub (pc := 14) d_V_makeConstant_14 v) ?_
  refine kv_p (fun _ _ _ _ _ _ v => vv_istore (pc := 15) d_V_makeConstant_15 (Nat.le_of_ble_eq_true rfl) v) ?_
  refine kv_p (fun _ _ _ _ _ _ v => vv_aload_n (pc := 17) d_V_makeConstant_17 rfl v) ?_
  refine kw_gf (pc := 18) 7 d_V_makeConstant_18 fl_V_14 (Or.inl ⟨by decide, rfl⟩) rfl (by decide) ?_
  refine kv_p (fun _ _ _ _ _ _ v => vv_iload (pc := 21) d_V_makeConstant_21 rfl v) ?_
  refine kv_p (fun _ _ _ _ _ _ v => vv_iconst (pc := 23) (v := 2) d_V_makeConstant_23 rfl v) ?_
  refine kv_p (fun _ _ _ _ _ _ v => vv_iadd (pc := 24) d_V_makeConstant_24 v) ?_
  refine kv_p (fun _ _ _ _ _ _ v => vv_iload (pc := 25) d_V_makeConstant_25 rfl v) ?_
  refine kw_cr (pc := 27) (As := [.int ((nI (rsz K 7)) + 2), .int ((nI (rsz (mks K 6 x1) 15)) - x3)]) (As0 := (fun G => [.ref (cp_b G + 7), .int ((nI (rsz K 7)) + 2), .int ((nI (rsz (mks K 6 x1) 15)) - x3)])) d_V_makeConstant_27 (K_set (by decide)) rfl k_R_set ml_V_55 (by decide) (by omega) (Nat.le_of_ble_eq_true rfl) ?_
  refine kv_p (fun _ _ _ _ _ _ v => vv_iconst (pc := 30) (v := 0) d_V_makeConstant_30 rfl v) ?_
  refine kv_p (fun _ _ _ _ _ _ v => vv_istore (pc := 31) d_V_makeConstant_31 (Nat.le_of_ble_eq_true rfl) v) ?_
  exact kw_sub [3, 4, 5, 6, 2, 1, 0] rfl (w G H d n0 z0 hd)
theorem c_V_makeConstant {D : Nat} {o : cp_G → Option Value} {K' K : cp_K} {x1 : Int32} {x3 : Int32} (w : wp_V_makeConstant_0 D (fun G => .inl (o G)) K' K x1 x3) : KC (D + 8) m_V_makeConstant (fun G => [.ref (cp_b G + 6), .int x1, .ref (cp_b G + 14), .int x3]) K o K' := KC.of2 rfl (fun G => by exact ⟨Nat.le_of_ble_eq_true rfl, rfl⟩) (b_V_makeConstant_0 w)
def wp_V_makeConstant_33 (D : Nat) (o : cp_G → cp_O) (K' K : cp_K) (x1 : Int32) (x3 : Int32) (x4 : Int32) (x5 : Int32) (x6 : Int32) : Prop := ((x5 ≤ (x6 : Int32) → (o = (fun _ => .inl (some (.int x4))) ∧ K' = K)) ∧ (¬ x5 ≤ (x6 : Int32) → rsz K 7 < k_lim 7 ∧ JC (D + 8) m_V_makeConstant o K' 33 (fun G => [(0, .ref (cp_b G + 6)), (1, .int x1), (2, .ref (cp_b G + 14)), (3, .int x3), (4, .int x4), (5, .int x5), (6, .int (x6 + 1))]) (fun _ => []) (kpush K 7 (rget K 17 (x3 + x6)))))
theorem b_V_makeConstant_33 {D : Nat} {o : cp_G → cp_O} {K' K : cp_K} {x1 : Int32} {x3 : Int32} {x4 : Int32} {x5 : Int32} {x6 : Int32} (w : wp_V_makeConstant_33 D o K' K x1 x3 x4 x5 x6) : JC (D + 8) m_V_makeConstant o K' 33 (fun G => [(0, .ref (cp_b G + 6)), (1, .int x1), (2, .ref (cp_b G + 14)), (3, .int x3), (4, .int x4), (5, .int x5), (6, .int x6)]) (fun _ => []) K := by
  unfold wp_V_makeConstant_33 at w
  intro G H d n0 z0 hd
  show kV G H m_V_makeConstant d n0 z0 (o G) K' 33 [(0, .ref (cp_b G + 6)), (1, .int x1), (2, .ref (cp_b G + 14)), (3, .int x3), (4, .int x4), (5, .int x5), (6, .int x6)] [] K
  refine kv_p (fun _ _ _ _ _ _ v => vv_iload (pc := 33) d_V_makeConstant_33 rfl v) ?_
  refine kv_p (fun _ _ _ _ _ _ v => vv_iload (pc := 35) d_V_makeConstant_35 rfl v) ?_
  by_cases hc : x5 ≤ (x6 : Int32)
  · replace w := w.1 hc
    refine kv_p (fun _ _ _ _ _ _ v => vv_icmp_ge (pc := 37) (tgt := 61) d_V_makeConstant_37 rfl (fun _ => v) (fun hn => absurd hc hn)) ?_
    refine kv_p (fun _ _ _ _ _ _ v => vv_iload (pc := 61) d_V_makeConstant_61 rfl v) ?_
    obtain ⟨rfl, rfl⟩ := w
    exact kv_e (fun _ _ => vv_iret (pc := 63) d_V_makeConstant_63 rfl)
  · replace w := w.2 hc
    refine kv_p (fun _ _ _ _ _ _ v => vv_icmp_ge (pc := 37) (tgt := 61) d_V_makeConstant_37 rfl (fun hn => absurd hn hc) (fun _ => v)) ?_
    refine kv_p (fun _ _ _ _ _ _ v => vv_aload_n (pc := 40) d_V_makeConstant_40 rfl v) ?_
    refine kw_gf (pc := 41) 7 d_V_makeConstant_41 fl_V_14 (Or.inl ⟨by decide, rfl⟩) rfl (by decide) ?_
    refine kv_p (fun _ _ _ _ _ _ v => vv_aload_n (pc := 44) d_V_makeConstant_44 rfl v) ?_
    refine kv_p (fun _ _ _ _ _ _ v => vv_iload_n (pc := 45) d_V_makeConstant_45 rfl v) ?_
    refine kv_p (fun _ _ _ _ _ _ v => vv_iload (pc := 46) d_V_makeConstant_46 rfl v) ?_
    refine kv_p (fun _ _ _ _ _ _ v => vv_iadd (pc := 48) d_V_makeConstant_48 v) ?_
    refine kw_cv (pc := 49) (As := [.int (x3 + x6)]) (As0 := (fun G => [.ref (cp_b G + 14), .int (x3 + x6)])) d_V_makeConstant_49 (C_BvalueAt) rfl k_B_valueAt ml_V_59 (Or.inl ⟨by decide, rfl⟩) (by omega) (Nat.le_of_ble_eq_true rfl) ?_
    obtain ⟨b1, w⟩ := w
    refine kw_cr (pc := 52) (As := [.int (rget K 17 (x3 + x6))]) (As0 := (fun G => [.ref (cp_b G + 7), .int (rget K 17 (x3 + x6))])) d_V_makeConstant_52 (K_push (by decide) b1) rfl k_R_push ml_V_45 (by decide) (by omega) (Nat.le_of_ble_eq_true rfl) ?_
    refine kv_p (fun _ _ _ _ _ _ v => vv_iinc (pc := 55) (v := (x6 + 1)) d_V_makeConstant_55 rfl rfl (Nat.le_of_ble_eq_true rfl) v) ?_
    refine kv_p (fun _ _ _ _ _ _ v => vv_goto (pc := 58) (tgt := 33) d_V_makeConstant_58 rfl v) ?_
    exact kw_sub [1, 2, 3, 4, 5, 6, 0] rfl (w G H d n0 z0 hd)
def wp_V_isSmallWithout_0 (D : Nat) (o : cp_G → cp_O) (K' K : cp_K) (x1 : Int32) (x2 : Int32) : Prop := rsz (kcut K 9 0) 9 < k_lim 9 ∧ JC (D + 8) m_V_isSmallWithout o K' 18 (fun G => [(0, .ref (cp_b G + 6)), (1, .int x1), (2, .int x2), (3, .int 0)]) (fun _ => []) (kpush (kcut K 9 0) 9 x1)
theorem b_V_isSmallWithout_0 {D : Nat} {o : cp_G → cp_O} {K' K : cp_K} {x1 : Int32} {x2 : Int32} (w : wp_V_isSmallWithout_0 D o K' K x1 x2) : JC (D + 8) m_V_isSmallWithout o K' 0 (fun G => [(0, .ref (cp_b G + 6)), (1, .int x1), (2, .int x2)]) (fun _ => []) K := by
  unfold wp_V_isSmallWithout_0 at w
  intro G H d n0 z0 hd
  show kV G H m_V_isSmallWithout d n0 z0 (o G) K' 0 [(0, .ref (cp_b G + 6)), (1, .int x1), (2, .int x2)] [] K
  refine kv_p (fun _ _ _ _ _ _ v => vv_aload_n (pc := 0) d_V_isSmallWithout_0 rfl v) ?_
  refine kw_gf (pc := 1) 9 d_V_isSmallWithout_1 fl_V_20 (Or.inl ⟨by decide, rfl⟩) rfl (by decide) ?_
  refine kv_p (fun _ _ _ _ _ _ v => vv_iconst (pc := 4) (v := 0) d_V_isSmallWithout_4 rfl v) ?_
  refine kw_cr (pc := 5) (As := [.int 0]) (As0 := (fun G => [.ref (cp_b G + 9), .int 0])) d_V_isSmallWithout_5 (K_cut (by decide)) rfl k_R_cut ml_V_34 (by decide) (by omega) (Nat.le_of_ble_eq_true rfl) ?_
  refine kv_p (fun _ _ _ _ _ _ v => vv_aload_n (pc := 8) d_V_isSmallWithout_8 rfl v) ?_
  refine kw_gf (pc := 9) 9 d_V_isSmallWithout_9 fl_V_20 (Or.inl ⟨by decide, rfl⟩) rfl (by decide) ?_
  refine kv_p (fun _ _ _ _ _ _ v => vv_iload_n (pc := 12) d_V_isSmallWithout_12 rfl v) ?_
  obtain ⟨b1, w⟩ := w
  refine kw_cr (pc := 13) (As := [.int x1]) (As0 := (fun G => [.ref (cp_b G + 9), .int x1])) d_V_isSmallWithout_13 (K_push (by decide) b1) rfl k_R_push ml_V_45 (by decide) (by omega) (Nat.le_of_ble_eq_true rfl) ?_
  refine kv_p (fun _ _ _ _ _ _ v => vv_iconst (pc := 16) (v := 0) d_V_isSmallWithout_16 rfl v) ?_
  refine kv_p (fun _ _ _ _ _ _ v => vv_istore_n (pc := 17) d_V_isSmallWithout_17 (Nat.le_of_ble_eq_true rfl) v) ?_
  exact kw_sub [1, 2, 3, 0] rfl (w G H d n0 z0 hd)
theorem c_V_isSmallWithout {D : Nat} {o : cp_G → Option Value} {K' K : cp_K} {x1 : Int32} {x2 : Int32} (w : wp_V_isSmallWithout_0 D (fun G => .inl (o G)) K' K x1 x2) : KC (D + 8) m_V_isSmallWithout (fun G => [.ref (cp_b G + 6), .int x1, .int x2]) K o K' := KC.of2 rfl (fun G => by exact ⟨Nat.le_of_ble_eq_true rfl, rfl⟩) (b_V_isSmallWithout_0 w)
def wp_V_isSmallWithout_18 (D : Nat) (o : cp_G → cp_O) (K' K : cp_K) (x1 : Int32) (x2 : Int32) (x3 : Int32) : Prop := ((200 ≤ (x3 : Int32) → ((¬ ((nI (rsz K 9)) : Int32) = 0 → (o = (fun _ => .inl (some (.int 0))) ∧ K' = K)) ∧ (((nI (rsz K 9)) : Int32) = 0 → (o = (fun _ => .inl (some (.int 1))) ∧ K' = K)))) ∧ (¬ 200 ≤ (x3 : Int32) → ((¬ ((nI (rsz K 9)) : Int32) = 0 → ∃ r3 T1, KC (D + 7) m_V_lookThrough (fun G => [.ref (cp_b G + 6), .int (rtop K 9)]) (kpop K 9) (fun _ => some (.int r3)) T1 ∧ ((¬ (r3 : Int32) = x2 → JC (D + 8) m_V_isSmallWithout o K' 68 (fun G => [(0, .ref (cp_b G + 6)), (1, .int x1), (2, .int x2), (3, .int x3), (4, .int r3), (5, .int ((rget T1 7 (r3 + 2)) - 1))]) (fun _ => []) T1) ∧ ((r3 : Int32) = x2 → (o = (fun _ => .inl (some (.int 0))) ∧ K' = T1)))) ∧ (((nI (rsz K 9)) : Int32) = 0 → (o = (fun _ => .inl (some (.int 1))) ∧ K' = K)))))
theorem b_V_isSmallWithout_18 {D : Nat} {o : cp_G → cp_O} {K' K : cp_K} {x1 : Int32} {x2 : Int32} {x3 : Int32} (w : wp_V_isSmallWithout_18 D o K' K x1 x2 x3) : JC (D + 8) m_V_isSmallWithout o K' 18 (fun G => [(0, .ref (cp_b G + 6)), (1, .int x1), (2, .int x2), (3, .int x3)]) (fun _ => []) K := by
  unfold wp_V_isSmallWithout_18 at w
  intro G H d n0 z0 hd
  show kV G H m_V_isSmallWithout d n0 z0 (o G) K' 18 [(0, .ref (cp_b G + 6)), (1, .int x1), (2, .int x2), (3, .int x3)] [] K
  refine kv_p (fun _ _ _ _ _ _ v => vv_iload_n (pc := 18) d_V_isSmallWithout_18 rfl v) ?_
  refine kv_p (fun _ _ _ _ _ _ v => vv_sipush (pc := 19) (v := 200) d_V_isSmallWithout_19 rfl v) ?_
  by_cases hc : 200 ≤ (x3 : Int32)
  · replace w := w.1 hc
    refine kv_p (fun _ _ _ _ _ _ v => vv_icmp_ge (pc := 22) (tgt := 100) d_V_isSmallWithout_22 rfl (fun _ => v) (fun hn => absurd hc hn)) ?_
    refine kv_p (fun _ _ _ _ _ _ v => vv_aload_n (pc := 100) d_V_isSmallWithout_100 rfl v) ?_
    refine kw_gf (pc := 101) 9 d_V_isSmallWithout_101 fl_V_20 (Or.inl ⟨by decide, rfl⟩) rfl (by decide) ?_
    refine kw_cr (pc := 104) (As := []) (As0 := (fun G => [.ref (cp_b G + 9)])) d_V_isSmallWithout_104 (K_size (by decide)) rfl k_R_size ml_V_41 (by decide) (by omega) (Nat.le_of_ble_eq_true rfl) ?_
    by_cases hc : ((nI (rsz K 9)) : Int32) = 0
    · replace w := w.2 hc
      refine kv_p (fun _ _ _ _ _ _ v => vv_if_ne (pc := 107) (tgt := 114) d_V_isSmallWithout_107 rfl (fun hn => absurd hc hn) (fun _ => v)) ?_
      refine kv_p (fun _ _ _ _ _ _ v => vv_iconst (pc := 110) (v := 1) d_V_isSmallWithout_110 rfl v) ?_
      refine kv_p (fun _ _ _ _ _ _ v => vv_goto (pc := 111) (tgt := 115) d_V_isSmallWithout_111 rfl v) ?_
      obtain ⟨rfl, rfl⟩ := w
      exact kv_e (fun _ _ => vv_zret (pc := 115) d_V_isSmallWithout_115 rfl rfl)
    · replace w := w.1 hc
      refine kv_p (fun _ _ _ _ _ _ v => vv_if_ne (pc := 107) (tgt := 114) d_V_isSmallWithout_107 rfl (fun _ => v) (fun hn => absurd hn hc)) ?_
      refine kv_p (fun _ _ _ _ _ _ v => vv_iconst (pc := 114) (v := 0) d_V_isSmallWithout_114 rfl v) ?_
      obtain ⟨rfl, rfl⟩ := w
      exact kv_e (fun _ _ => vv_zret (pc := 115) d_V_isSmallWithout_115 rfl rfl)
  · replace w := w.2 hc
    refine kv_p (fun _ _ _ _ _ _ v => vv_icmp_ge (pc := 22) (tgt := 100) d_V_isSmallWithout_22 rfl (fun hn => absurd hn hc) (fun _ => v)) ?_
    refine kv_p (fun _ _ _ _ _ _ v => vv_aload_n (pc := 25) d_V_isSmallWithout_25 rfl v) ?_
    refine kw_gf (pc := 26) 9 d_V_isSmallWithout_26 fl_V_20 (Or.inl ⟨by decide, rfl⟩) rfl (by decide) ?_
    refine kw_cr (pc := 29) (As := []) (As0 := (fun G => [.ref (cp_b G + 9)])) d_V_isSmallWithout_29 (K_size (by decide)) rfl k_R_size ml_V_41 (by decide) (by omega) (Nat.le_of_ble_eq_true rfl) ?_
    by_cases hc : ((nI (rsz K 9)) : Int32) = 0
    · replace w := w.2 hc
      refine kv_p (fun _ _ _ _ _ _ v => vv_if_ne (pc := 32) (tgt := 37) d_V_isSmallWithout_32 rfl (fun hn => absurd hc hn) (fun _ => v)) ?_
      refine kv_p (fun _ _ _ _ _ _ v => vv_iconst (pc := 35) (v := 1) d_V_isSmallWithout_35 rfl v) ?_
      obtain ⟨rfl, rfl⟩ := w
      exact kv_e (fun _ _ => vv_zret (pc := 36) d_V_isSmallWithout_36 rfl rfl)
    · replace w := w.1 hc
      refine kv_p (fun _ _ _ _ _ _ v => vv_if_ne (pc := 32) (tgt := 37) d_V_isSmallWithout_32 rfl (fun _ => v) (fun hn => absurd hn hc)) ?_
      refine kv_p (fun _ _ _ _ _ _ v => vv_aload_n (pc := 37) d_V_isSmallWithout_37 rfl v) ?_
      refine kv_p (fun _ _ _ _ _ _ v => vv_aload_n (pc := 38) d_V_isSmallWithout_38 rfl v) ?_
      refine kw_gf (pc := 39) 9 d_V_isSmallWithout_39 fl_V_20 (Or.inl ⟨by decide, rfl⟩) rfl (by decide) ?_
      refine kw_cr (pc := 42) (As := []) (As0 := (fun G => [.ref (cp_b G + 9)])) d_V_isSmallWithout_42 (K_pop (by decide)) rfl k_R_pop ml_V_62 (by decide) (by omega) (Nat.le_of_ble_eq_true rfl) ?_
      obtain ⟨r3, T1, c2, w⟩ := w
      refine kw_cv (pc := 45) (As := [.int (rtop K 9)]) d_V_isSmallWithout_45 c2 rfl k_V_lookThrough ml_V_65 (Or.inl ⟨by decide, rfl⟩) (by omega) (Nat.le_of_ble_eq_true rfl) ?_
      refine kv_p (fun _ _ _ _ _ _ v => vv_istore (pc := 48) d_V_isSmallWithout_48 (Nat.le_of_ble_eq_true rfl) v) ?_
      refine kv_p (fun _ _ _ _ _ _ v => vv_iload (pc := 50) d_V_isSmallWithout_50 rfl v) ?_
      refine kv_p (fun _ _ _ _ _ _ v => vv_iload_n (pc := 52) d_V_isSmallWithout_52 rfl v) ?_
      by_cases hc : (r3 : Int32) = x2
      · replace w := w.2 hc
        refine kv_p (fun _ _ _ _ _ _ v => vv_icmp_ne (pc := 53) (tgt := 58) d_V_isSmallWithout_53 rfl (fun hn => absurd hc hn) (fun _ => v)) ?_
        refine kv_p (fun _ _ _ _ _ _ v => vv_iconst (pc := 56) (v := 0) d_V_isSmallWithout_56 rfl v) ?_
        obtain ⟨rfl, rfl⟩ := w
        exact kv_e (fun _ _ => vv_zret (pc := 57) d_V_isSmallWithout_57 rfl rfl)
      · replace w := w.1 hc
        refine kv_p (fun _ _ _ _ _ _ v => vv_icmp_ne (pc := 53) (tgt := 58) d_V_isSmallWithout_53 rfl (fun _ => v) (fun hn => absurd hn hc)) ?_
        refine kv_p (fun _ _ _ _ _ _ v => vv_aload_n (pc := 58) d_V_isSmallWithout_58 rfl v) ?_
        refine kv_p (fun _ _ _ _ _ _ v => vv_iload (pc := 59) d_V_isSmallWithout_59 rfl v) ?_
        refine kw_cv (pc := 61) (As := [.int r3]) (As0 := (fun G => [.ref (cp_b G + 6), .int r3])) d_V_isSmallWithout_61 (C_VcountOf) rfl k_V_countOf ml_V_68 (Or.inl ⟨by decide, rfl⟩) (by omega) (Nat.le_of_ble_eq_true rfl) ?_
        refine kv_p (fun _ _ _ _ _ _ v => vv_iconst (pc := 64) (v := 1) d_V_isSmallWithout_64 rfl v) ?_
        refine kv_p (fun _ _ _ _ _ _ v => vv_isub (pc := 65) d_V_isSmallWithout_65 v) ?_
        refine kv_p (fun _ _ _ _ _ _ v => vv_istore (pc := 66) d_V_isSmallWithout_66 (Nat.le_of_ble_eq_true rfl) v) ?_
        exact kw_sub [2, 3, 4, 5, 1, 0] rfl (w G H d n0 z0 hd)
def wp_V_isSmallWithout_68 (D : Nat) (o : cp_G → cp_O) (K' K : cp_K) (x1 : Int32) (x2 : Int32) (x3 : Int32) (x4 : Int32) (x5 : Int32) : Prop := (((x5 : Int32) < 0 → JC (D + 8) m_V_isSmallWithout o K' 18 (fun G => [(0, .ref (cp_b G + 6)), (1, .int x1), (2, .int x2), (3, .int (x3 + 1))]) (fun _ => []) K) ∧ (¬ (x5 : Int32) < 0 → rsz K 9 < k_lim 9 ∧ JC (D + 8) m_V_isSmallWithout o K' 68 (fun G => [(0, .ref (cp_b G + 6)), (1, .int x1), (2, .int x2), (3, .int x3), (4, .int x4), (5, .int (x5 + (-1)))]) (fun _ => []) (kpush K 9 (rget K 7 ((x4 + 3) + x5)))))
theorem b_V_isSmallWithout_68 {D : Nat} {o : cp_G → cp_O} {K' K : cp_K} {x1 : Int32} {x2 : Int32} {x3 : Int32} {x4 : Int32} {x5 : Int32} (w : wp_V_isSmallWithout_68 D o K' K x1 x2 x3 x4 x5) : JC (D + 8) m_V_isSmallWithout o K' 68 (fun G => [(0, .ref (cp_b G + 6)), (1, .int x1), (2, .int x2), (3, .int x3), (4, .int x4), (5, .int x5)]) (fun _ => []) K := by
  unfold wp_V_isSmallWithout_68 at w
  intro G H d n0 z0 hd
  show kV G H m_V_isSmallWithout d n0 z0 (o G) K' 68 [(0, .ref (cp_b G + 6)), (1, .int x1), (2, .int x2), (3, .int x3), (4, .int x4), (5, .int x5)] [] K
  refine kv_p (fun _ _ _ _ _ _ v => vv_iload (pc := 68) d_V_isSmallWithout_68 rfl v) ?_
  by_cases hc : (x5 : Int32) < 0
  · replace w := w.1 hc
    refine kv_p (fun _ _ _ _ _ _ v => vv_if_lt (pc := 70) (tgt := 94) d_V_isSmallWithout_70 rfl (fun _ => v) (fun hn => absurd hc hn)) ?_
    refine kv_p (fun _ _ _ _ _ _ v => vv_iinc (pc := 94) (v := (x3 + 1)) d_V_isSmallWithout_94 rfl rfl (Nat.le_of_ble_eq_true rfl) v) ?_
    refine kv_p (fun _ _ _ _ _ _ v => vv_goto (pc := 97) (tgt := 18) d_V_isSmallWithout_97 rfl v) ?_
    exact kw_sub [1, 2, 3, 0] rfl (w G H d n0 z0 hd)
  · replace w := w.2 hc
    refine kv_p (fun _ _ _ _ _ _ v => vv_if_lt (pc := 70) (tgt := 94) d_V_isSmallWithout_70 rfl (fun hn => absurd hn hc) (fun _ => v)) ?_
    refine kv_p (fun _ _ _ _ _ _ v => vv_aload_n (pc := 73) d_V_isSmallWithout_73 rfl v) ?_
    refine kw_gf (pc := 74) 9 d_V_isSmallWithout_74 fl_V_20 (Or.inl ⟨by decide, rfl⟩) rfl (by decide) ?_
    refine kv_p (fun _ _ _ _ _ _ v => vv_aload_n (pc := 77) d_V_isSmallWithout_77 rfl v) ?_
    refine kv_p (fun _ _ _ _ _ _ v => vv_iload (pc := 78) d_V_isSmallWithout_78 rfl v) ?_
    refine kv_p (fun _ _ _ _ _ _ v => vv_iload (pc := 80) d_V_isSmallWithout_80 rfl v) ?_
    refine kw_cv (pc := 82) (As := [.int x4, .int x5]) (As0 := (fun G => [.ref (cp_b G + 6), .int x4, .int x5])) d_V_isSmallWithout_82 (C_VargumentOf) rfl k_V_argumentOf ml_V_71 (Or.inl ⟨by decide, rfl⟩) (by omega) (Nat.le_of_ble_eq_true rfl) ?_
    obtain ⟨b1, w⟩ := w
    refine kw_cr (pc := 85) (As := [.int (rget K 7 ((x4 + 3) + x5))]) (As0 := (fun G => [.ref (cp_b G + 9), .int (rget K 7 ((x4 + 3) + x5))])) d_V_isSmallWithout_85 (K_push (by decide) b1) rfl k_R_push ml_V_45 (by decide) (by omega) (Nat.le_of_ble_eq_true rfl) ?_
    refine kv_p (fun _ _ _ _ _ _ v => vv_iinc (pc := 88) (v := (x5 + (-1))) d_V_isSmallWithout_88 rfl rfl (Nat.le_of_ble_eq_true rfl) v) ?_
    refine kv_p (fun _ _ _ _ _ _ v => vv_goto (pc := 91) (tgt := 68) d_V_isSmallWithout_91 rfl v) ?_
    exact kw_sub [1, 2, 3, 4, 5, 0] rfl (w G H d n0 z0 hd)
def wp_V_makeSame_0 (D : Nat) (o : cp_G → cp_O) (K' K : cp_K) (x1 : Int32) (x2 : Int32) : Prop := rsz K 11 < 16000 ∧ JC (D + 8) m_V_makeSame o K' 8 (fun G => [(0, .ref (cp_b G + 6)), (1, .int x1), (2, .int x2), (3, .int 0)]) (fun _ => []) (spairs K x1 x2)
theorem b_V_makeSame_0 {D : Nat} {o : cp_G → cp_O} {K' K : cp_K} {x1 : Int32} {x2 : Int32} (w : wp_V_makeSame_0 D o K' K x1 x2) : JC (D + 8) m_V_makeSame o K' 0 (fun G => [(0, .ref (cp_b G + 6)), (1, .int x1), (2, .int x2)]) (fun _ => []) K := by
  unfold wp_V_makeSame_0 at w
  intro G H d n0 z0 hd
  show kV G H m_V_makeSame d n0 z0 (o G) K' 0 [(0, .ref (cp_b G + 6)), (1, .int x1), (2, .int x2)] [] K
  refine kv_p (fun _ _ _ _ _ _ v => vv_aload_n (pc := 0) d_V_makeSame_0 rfl v) ?_
  refine kv_p (fun _ _ _ _ _ _ v => vv_iload_n (pc := 1) d_V_makeSame_1 rfl v) ?_
  refine kv_p (fun _ _ _ _ _ _ v => vv_iload_n (pc := 2) d_V_makeSame_2 rfl v) ?_
  obtain ⟨b1, w⟩ := w
  refine kw_cv (pc := 3) (As := [.int x1, .int x2]) (As0 := (fun G => [.ref (cp_b G + 6), .int x1, .int x2])) d_V_makeSame_3 (C_VstartPairs b1) rfl k_V_startPairs ml_V_74 (Or.inl ⟨by decide, rfl⟩) (by omega) (Nat.le_of_ble_eq_true rfl) ?_
  refine kv_p (fun _ _ _ _ _ _ v => vv_iconst (pc := 6) (v := 0) d_V_makeSame_6 rfl v) ?_
  refine kv_p (fun _ _ _ _ _ _ v => vv_istore_n (pc := 7) d_V_makeSame_7 (Nat.le_of_ble_eq_true rfl) v) ?_
  exact kw_sub [1, 2, 3, 0] rfl (w G H d n0 z0 hd)
theorem c_V_makeSame {D : Nat} {o : cp_G → Option Value} {K' K : cp_K} {x1 : Int32} {x2 : Int32} (w : wp_V_makeSame_0 D (fun G => .inl (o G)) K' K x1 x2) : KC (D + 8) m_V_makeSame (fun G => [.ref (cp_b G + 6), .int x1, .int x2]) K o K' := KC.of2 rfl (fun G => by exact ⟨Nat.le_of_ble_eq_true rfl, rfl⟩) (b_V_makeSame_0 w)
def wp_V_makeSame_8 (D : Nat) (o : cp_G → cp_O) (K' K : cp_K) (x1 : Int32) (x2 : Int32) (x3 : Int32) : Prop := ((1000 ≤ (x3 : Int32) → ((¬ ((nI (rsz K 11)) : Int32) = 0 → (o = (fun _ => .inl (some (.int 0))) ∧ K' = K)) ∧ (((nI (rsz K 11)) : Int32) = 0 → (o = (fun _ => .inl (some (.int 1))) ∧ K' = K)))) ∧ (¬ 1000 ≤ (x3 : Int32) → ((¬ ((nI (rsz K 11)) : Int32) = 0 → ∃ r3 T1, KC (D + 7) m_V_lookThrough (fun G => [.ref (cp_b G + 6), .int (rtop K 11)]) (kpop K 11) (fun _ => some (.int r3)) T1 ∧ ∃ r6 T4, KC (D + 7) m_V_lookThrough (fun G => [.ref (cp_b G + 6), .int (rtop T1 11)]) (kpop T1 11) (fun _ => some (.int r6)) T4 ∧ ((¬ ((if rget T4 7 r6 = 4 then 1 else 0) : Int32) = 0 → JC (D + 8) m_V_makeSame o K' 71 (fun G => [(0, .ref (cp_b G + 6)), (1, .int x1), (2, .int x2), (3, .int x3), (4, .int r3), (5, .int r6)]) (fun _ => []) T4) ∧ (((if rget T4 7 r6 = 4 then 1 else 0) : Int32) = 0 → ((((if rget T4 7 r3 = 4 then 1 else 0) : Int32) = 0 → ((((hsh T4 r6 r3) : Int32) = 0 → (o = (fun _ => .inl (some (.int 0))) ∧ K' = T4)) ∧ (¬ ((hsh T4 r6 r3) : Int32) = 0 → ∃ T7, KC (D + 7) m_V_pushArgumentPairs (fun G => [.ref (cp_b G + 6), .int r6, .int r3]) T4 (fun _ => none) T7 ∧ JC (D + 8) m_V_makeSame o K' 108 (fun G => [(0, .ref (cp_b G + 6)), (1, .int x1), (2, .int x2), (3, .int x3), (4, .int r3), (5, .int r6)]) (fun _ => []) T7))) ∧ (¬ ((if rget T4 7 r3 = 4 then 1 else 0) : Int32) = 0 → JC (D + 8) m_V_makeSame o K' 71 (fun G => [(0, .ref (cp_b G + 6)), (1, .int x1), (2, .int x2), (3, .int x3), (4, .int r3), (5, .int r6)]) (fun _ => []) T4))))) ∧ (((nI (rsz K 11)) : Int32) = 0 → (o = (fun _ => .inl (some (.int 1))) ∧ K' = K)))))
theorem b_V_makeSame_8 {D : Nat} {o : cp_G → cp_O} {K' K : cp_K} {x1 : Int32} {x2 : Int32} {x3 : Int32} (w : wp_V_makeSame_8 D o K' K x1 x2 x3) : JC (D + 8) m_V_makeSame o K' 8 (fun G => [(0, .ref (cp_b G + 6)), (1, .int x1), (2, .int x2), (3, .int x3)]) (fun _ => []) K := by
  unfold wp_V_makeSame_8 at w
  intro G H d n0 z0 hd
  show kV G H m_V_makeSame d n0 z0 (o G) K' 8 [(0, .ref (cp_b G + 6)), (1, .int x1), (2, .int x2), (3, .int x3)] [] K
  refine kv_p (fun _ _ _ _ _ _ v => vv_iload_n (pc := 8) d_V_makeSame_8 rfl v) ?_
  refine kv_p (fun _ _ _ _ _ _ v => vv_sipush (pc := 9) (v := 1000) d_V_makeSame_9 rfl v) ?_
  by_cases hc : 1000 ≤ (x3 : Int32)
  · replace w := w.1 hc
    refine kv_p (fun _ _ _ _ _ _ v => vv_icmp_ge (pc := 12) (tgt := 114) d_V_makeSame_12 rfl (fun _ => v) (fun hn => absurd hc hn)) ?_
    refine kv_p (fun _ _ _ _ _ _ v => vv_aload_n (pc := 114) d_V_makeSame_114 rfl v) ?_
    refine kw_gf (pc := 115) 11 d_V_makeSame_115 fl_V_23 (Or.inl ⟨by decide, rfl⟩) rfl (by decide) ?_
    refine kw_cr (pc := 118) (As := []) (As0 := (fun G => [.ref (cp_b G + 11)])) d_V_makeSame_118 (K_size (by decide)) rfl k_R_size ml_V_41 (by decide) (by omega) (Nat.le_of_ble_eq_true rfl) ?_
    by_cases hc : ((nI (rsz K 11)) : Int32) = 0
    · replace w := w.2 hc
      refine kv_p (fun _ _ _ _ _ _ v => vv_if_ne (pc := 121) (tgt := 128) d_V_makeSame_121 rfl (fun hn => absurd hc hn) (fun _ => v)) ?_
      refine kv_p (fun _ _ _ _ _ _ v => vv_iconst (pc := 124) (v := 1) d_V_makeSame_124 rfl v) ?_
      refine kv_p (fun _ _ _ _ _ _ v => vv_goto (pc := 125) (tgt := 129) d_V_makeSame_125 rfl v) ?_
      obtain ⟨rfl, rfl⟩ := w
      exact kv_e (fun _ _ => vv_zret (pc := 129) d_V_makeSame_129 rfl rfl)
    · replace w := w.1 hc
      refine kv_p (fun _ _ _ _ _ _ v => vv_if_ne (pc := 121) (tgt := 128) d_V_makeSame_121 rfl (fun _ => v) (fun hn => absurd hn hc)) ?_
      refine kv_p (fun _ _ _ _ _ _ v => vv_iconst (pc := 128) (v := 0) d_V_makeSame_128 rfl v) ?_
      obtain ⟨rfl, rfl⟩ := w
      exact kv_e (fun _ _ => vv_zret (pc := 129) d_V_makeSame_129 rfl rfl)
  · replace w := w.2 hc
    refine kv_p (fun _ _ _ _ _ _ v => vv_icmp_ge (pc := 12) (tgt := 114) d_V_makeSame_12 rfl (fun hn => absurd hn hc) (fun _ => v)) ?_
    refine kv_p (fun _ _ _ _ _ _ v => vv_aload_n (pc := 15) d_V_makeSame_15 rfl v) ?_
    refine kw_gf (pc := 16) 11 d_V_makeSame_16 fl_V_23 (Or.inl ⟨by decide, rfl⟩) rfl (by decide) ?_
    refine kw_cr (pc := 19) (As := []) (As0 := (fun G => [.ref (cp_b G + 11)])) d_V_makeSame_19 (K_size (by decide)) rfl k_R_size ml_V_41 (by decide) (by omega) (Nat.le_of_ble_eq_true rfl) ?_
    by_cases hc : ((nI (rsz K 11)) : Int32) = 0
    · replace w := w.2 hc
      refine kv_p (fun _ _ _ _ _ _ v => vv_if_ne (pc := 22) (tgt := 27) d_V_makeSame_22 rfl (fun hn => absurd hc hn) (fun _ => v)) ?_
      refine kv_p (fun _ _ _ _ _ _ v => vv_iconst (pc := 25) (v := 1) d_V_makeSame_25 rfl v) ?_
      obtain ⟨rfl, rfl⟩ := w
      exact kv_e (fun _ _ => vv_zret (pc := 26) d_V_makeSame_26 rfl rfl)
    · replace w := w.1 hc
      refine kv_p (fun _ _ _ _ _ _ v => vv_if_ne (pc := 22) (tgt := 27) d_V_makeSame_22 rfl (fun _ => v) (fun hn => absurd hn hc)) ?_
      refine kv_p (fun _ _ _ _ _ _ v => vv_aload_n (pc := 27) d_V_makeSame_27 rfl v) ?_
      refine kv_p (fun _ _ _ _ _ _ v => vv_aload_n (pc := 28) d_V_makeSame_28 rfl v) ?_
      refine kw_gf (pc := 29) 11 d_V_makeSame_29 fl_V_23 (Or.inl ⟨by decide, rfl⟩) rfl (by decide) ?_
      refine kw_cr (pc := 32) (As := []) (As0 := (fun G => [.ref (cp_b G + 11)])) d_V_makeSame_32 (K_pop (by decide)) rfl k_R_pop ml_V_62 (by decide) (by omega) (Nat.le_of_ble_eq_true rfl) ?_
      obtain ⟨r3, T1, c2, w⟩ := w
      refine kw_cv (pc := 35) (As := [.int (rtop K 11)]) d_V_makeSame_35 c2 rfl k_V_lookThrough ml_V_65 (Or.inl ⟨by decide, rfl⟩) (by omega) (Nat.le_of_ble_eq_true rfl) ?_
      refine kv_p (fun _ _ _ _ _ _ v => vv_istore (pc := 38) d_V_makeSame_38 (Nat.le_of_ble_eq_true rfl) v) ?_
      refine kv_p (fun _ _ _ _ _ _ v => vv_aload_n (pc := 40) d_V_makeSame_40 rfl v) ?_
      refine kv_p (fun _ _ _ _ _ _ v => vv_aload_n (pc := 41) d_V_makeSame_41 rfl v) ?_
      refine kw_gf (pc := 42) 11 d_V_makeSame_42 fl_V_23 (Or.inl ⟨by decide, rfl⟩) rfl (by decide) ?_
      refine kw_cr (pc := 45) (As := []) (As0 := (fun G => [.ref (cp_b G + 11)])) d_V_makeSame_45 (K_pop (by decide)) rfl k_R_pop ml_V_62 (by decide) (by omega) (Nat.le_of_ble_eq_true rfl) ?_
      obtain ⟨r6, T4, c5, w⟩ := w
      refine kw_cv (pc := 48) (As := [.int (rtop T1 11)]) d_V_makeSame_48 c5 rfl k_V_lookThrough ml_V_65 (Or.inl ⟨by decide, rfl⟩) (by omega) (Nat.le_of_ble_eq_true rfl) ?_
      refine kv_p (fun _ _ _ _ _ _ v => vv_istore (pc := 51) d_V_makeSame_51 (Nat.le_of_ble_eq_true rfl) v) ?_
      refine kv_p (fun _ _ _ _ _ _ v => vv_aload_n (pc := 53) d_V_makeSame_53 rfl v) ?_
      refine kv_p (fun _ _ _ _ _ _ v => vv_iload (pc := 54) d_V_makeSame_54 rfl v) ?_
      refine kw_cv (pc := 56) (As := [.int r6]) (As0 := (fun G => [.ref (cp_b G + 6), .int r6])) d_V_makeSame_56 (C_VisOpenHole) rfl k_V_isOpenHole ml_V_77 (Or.inl ⟨by decide, rfl⟩) (by omega) (Nat.le_of_ble_eq_true rfl) ?_
      by_cases hc : ((if rget T4 7 r6 = 4 then 1 else 0) : Int32) = 0
      · replace w := w.2 hc
        refine kv_p (fun _ _ _ _ _ _ v => vv_if_ne (pc := 59) (tgt := 71) d_V_makeSame_59 rfl (fun hn => absurd hc hn) (fun _ => v)) ?_
        refine kv_p (fun _ _ _ _ _ _ v => vv_aload_n (pc := 62) d_V_makeSame_62 rfl v) ?_
        refine kv_p (fun _ _ _ _ _ _ v => vv_iload (pc := 63) d_V_makeSame_63 rfl v) ?_
        refine kw_cv (pc := 65) (As := [.int r3]) (As0 := (fun G => [.ref (cp_b G + 6), .int r3])) d_V_makeSame_65 (C_VisOpenHole) rfl k_V_isOpenHole ml_V_77 (Or.inl ⟨by decide, rfl⟩) (by omega) (Nat.le_of_ble_eq_true rfl) ?_
        by_cases hc : ((if rget T4 7 r3 = 4 then 1 else 0) : Int32) = 0
        · replace w := w.1 hc
          refine kv_p (fun _ _ _ _ _ _ v => vv_if_eq (pc := 68) (tgt := 84) d_V_makeSame_68 rfl (fun _ => v) (fun hn => absurd hc hn)) ?_
          refine kv_p (fun _ _ _ _ _ _ v => vv_aload_n (pc := 84) d_V_makeSame_84 rfl v) ?_
          refine kv_p (fun _ _ _ _ _ _ v => vv_iload (pc := 85) d_V_makeSame_85 rfl v) ?_
          refine kv_p (fun _ _ _ _ _ _ v => vv_iload (pc := 87) d_V_makeSame_87 rfl v) ?_
          refine kw_cv (pc := 89) (As := [.int r6, .int r3]) (As0 := (fun G => [.ref (cp_b G + 6), .int r6, .int r3])) d_V_makeSame_89 (C_VhaveSameHead) rfl k_V_haveSameHead ml_V_85 (Or.inl ⟨by decide, rfl⟩) (by omega) (Nat.le_of_ble_eq_true rfl) ?_
          by_cases hc : ((hsh T4 r6 r3) : Int32) = 0
          · replace w := w.1 hc
            refine kv_p (fun _ _ _ _ _ _ v => vv_if_eq (pc := 92) (tgt := 106) d_V_makeSame_92 rfl (fun _ => v) (fun hn => absurd hc hn)) ?_
            refine kv_p (fun _ _ _ _ _ _ v => vv_iconst (pc := 106) (v := 0) d_V_makeSame_106 rfl v) ?_
            obtain ⟨rfl, rfl⟩ := w
            exact kv_e (fun _ _ => vv_zret (pc := 107) d_V_makeSame_107 rfl rfl)
          · replace w := w.2 hc
            refine kv_p (fun _ _ _ _ _ _ v => vv_if_eq (pc := 92) (tgt := 106) d_V_makeSame_92 rfl (fun hn => absurd hn hc) (fun _ => v)) ?_
            refine kv_p (fun _ _ _ _ _ _ v => vv_aload_n (pc := 95) d_V_makeSame_95 rfl v) ?_
            refine kv_p (fun _ _ _ _ _ _ v => vv_iload (pc := 96) d_V_makeSame_96 rfl v) ?_
            refine kv_p (fun _ _ _ _ _ _ v => vv_iload (pc := 98) d_V_makeSame_98 rfl v) ?_
            obtain ⟨T7, c8, w⟩ := w
            refine kw_cv (pc := 100) (As := [.int r6, .int r3]) d_V_makeSame_100 c8 rfl k_V_pushArgumentPairs ml_V_88 (Or.inl ⟨by decide, rfl⟩) (by omega) (Nat.le_of_ble_eq_true rfl) ?_
            refine kv_p (fun _ _ _ _ _ _ v => vv_goto (pc := 103) (tgt := 108) d_V_makeSame_103 rfl v) ?_
            exact kw_sub [2, 3, 4, 5, 1, 0] rfl (w G H d n0 z0 hd)
        · replace w := w.2 hc
          refine kv_p (fun _ _ _ _ _ _ v => vv_if_eq (pc := 68) (tgt := 84) d_V_makeSame_68 rfl (fun hn => absurd hn hc) (fun _ => v)) ?_
          exact kw_sub [2, 3, 4, 5, 1, 0] rfl (w G H d n0 z0 hd)
      · replace w := w.1 hc
        refine kv_p (fun _ _ _ _ _ _ v => vv_if_ne (pc := 59) (tgt := 71) d_V_makeSame_59 rfl (fun _ => v) (fun hn => absurd hn hc)) ?_
        exact kw_sub [2, 3, 4, 5, 1, 0] rfl (w G H d n0 z0 hd)
def wp_V_makeSame_71 (D : Nat) (o : cp_G → cp_O) (K' K : cp_K) (x1 : Int32) (x2 : Int32) (x3 : Int32) (x4 : Int32) (x5 : Int32) : Prop := ∃ r3 T1, KC (D + 7) m_V_fillOneOf (fun G => [.ref (cp_b G + 6), .int x5, .int x4]) K (fun _ => some (.int r3)) T1 ∧ ((¬ (r3 : Int32) = 0 → JC (D + 8) m_V_makeSame o K' 108 (fun G => [(0, .ref (cp_b G + 6)), (1, .int x1), (2, .int x2), (3, .int x3), (4, .int x4), (5, .int x5)]) (fun _ => []) T1) ∧ ((r3 : Int32) = 0 → (o = (fun _ => .inl (some (.int 0))) ∧ K' = T1)))
theorem b_V_makeSame_71 {D : Nat} {o : cp_G → cp_O} {K' K : cp_K} {x1 : Int32} {x2 : Int32} {x3 : Int32} {x4 : Int32} {x5 : Int32} (w : wp_V_makeSame_71 D o K' K x1 x2 x3 x4 x5) : JC (D + 8) m_V_makeSame o K' 71 (fun G => [(0, .ref (cp_b G + 6)), (1, .int x1), (2, .int x2), (3, .int x3), (4, .int x4), (5, .int x5)]) (fun _ => []) K := by
  unfold wp_V_makeSame_71 at w
  intro G H d n0 z0 hd
  show kV G H m_V_makeSame d n0 z0 (o G) K' 71 [(0, .ref (cp_b G + 6)), (1, .int x1), (2, .int x2), (3, .int x3), (4, .int x4), (5, .int x5)] [] K
  refine kv_p (fun _ _ _ _ _ _ v => vv_aload_n (pc := 71) d_V_makeSame_71 rfl v) ?_
  refine kv_p (fun _ _ _ _ _ _ v => vv_iload (pc := 72) d_V_makeSame_72 rfl v) ?_
  refine kv_p (fun _ _ _ _ _ _ v => vv_iload (pc := 74) d_V_makeSame_74 rfl v) ?_
  obtain ⟨r3, T1, c2, w⟩ := w
  refine kw_cv (pc := 76) (As := [.int x5, .int x4]) d_V_makeSame_76 c2 rfl k_V_fillOneOf ml_V_81 (Or.inl ⟨by decide, rfl⟩) (by omega) (Nat.le_of_ble_eq_true rfl) ?_
  by_cases hc : (r3 : Int32) = 0
  · replace w := w.2 hc
    refine kv_p (fun _ _ _ _ _ _ v => vv_if_ne (pc := 79) (tgt := 108) d_V_makeSame_79 rfl (fun hn => absurd hc hn) (fun _ => v)) ?_
    refine kv_p (fun _ _ _ _ _ _ v => vv_iconst (pc := 82) (v := 0) d_V_makeSame_82 rfl v) ?_
    obtain ⟨rfl, rfl⟩ := w
    exact kv_e (fun _ _ => vv_zret (pc := 83) d_V_makeSame_83 rfl rfl)
  · replace w := w.1 hc
    refine kv_p (fun _ _ _ _ _ _ v => vv_if_ne (pc := 79) (tgt := 108) d_V_makeSame_79 rfl (fun _ => v) (fun hn => absurd hn hc)) ?_
    exact kw_sub [0, 1, 2, 3, 4, 5] rfl (w G H d n0 z0 hd)
def wp_V_makeSame_108 (D : Nat) (o : cp_G → cp_O) (K' K : cp_K) (x1 : Int32) (x2 : Int32) (x3 : Int32) (x4 : Int32) (x5 : Int32) : Prop := JC (D + 8) m_V_makeSame o K' 8 (fun G => [(0, .ref (cp_b G + 6)), (1, .int x1), (2, .int x2), (3, .int (x3 + 1))]) (fun _ => []) K
theorem b_V_makeSame_108 {D : Nat} {o : cp_G → cp_O} {K' K : cp_K} {x1 : Int32} {x2 : Int32} {x3 : Int32} {x4 : Int32} {x5 : Int32} (w : wp_V_makeSame_108 D o K' K x1 x2 x3 x4 x5) : JC (D + 8) m_V_makeSame o K' 108 (fun G => [(0, .ref (cp_b G + 6)), (1, .int x1), (2, .int x2), (3, .int x3), (4, .int x4), (5, .int x5)]) (fun _ => []) K := by
  unfold wp_V_makeSame_108 at w
  intro G H d n0 z0 hd
  show kV G H m_V_makeSame d n0 z0 (o G) K' 108 [(0, .ref (cp_b G + 6)), (1, .int x1), (2, .int x2), (3, .int x3), (4, .int x4), (5, .int x5)] [] K
  refine kv_p (fun _ _ _ _ _ _ v => vv_iinc (pc := 108) (v := (x3 + 1)) d_V_makeSame_108 rfl rfl (Nat.le_of_ble_eq_true rfl) v) ?_
  refine kv_p (fun _ _ _ _ _ _ v => vv_goto (pc := 111) (tgt := 8) d_V_makeSame_111 rfl v) ?_
  exact kw_sub [1, 2, 3, 0] rfl (w G H d n0 z0 hd)
def wp_V_fillOneOf_0 (D : Nat) (o : cp_G → cp_O) (K' K : cp_K) (x1 : Int32) (x2 : Int32) : Prop := ((((if rget K 7 x1 = 4 then 1 else 0) : Int32) = 0 → ((¬ (x2 : Int32) = x1 → ((¬ (x1 : Int32) = x2 → ((¬ ((rget K 7 x1) : Int32) = 6 → JC (D + 8) m_V_fillOneOf o K' 57 (fun G => [(0, .ref (cp_b G + 6)), (1, .int x1), (2, .int x2), (3, .int x2), (4, .int x1)]) (fun _ => []) K) ∧ (((rget K 7 x1) : Int32) = 6 → ∃ r3 T1, KC (D + 7) m_V_isSmallWithout (fun G => [.ref (cp_b G + 6), .int x1, .int x2]) K (fun _ => some (.int r3)) T1 ∧ ((¬ (r3 : Int32) = 0 → JC (D + 8) m_V_fillOneOf o K' 57 (fun G => [(0, .ref (cp_b G + 6)), (1, .int x1), (2, .int x2), (3, .int x2), (4, .int x1)]) (fun _ => []) T1) ∧ ((r3 : Int32) = 0 → (o = (fun _ => .inl (some (.int 0))) ∧ K' = T1)))))) ∧ ((x1 : Int32) = x2 → (o = (fun _ => .inl (some (.int 1))) ∧ K' = K)))) ∧ ((x2 : Int32) = x1 → ((¬ (x2 : Int32) = x2 → ((¬ ((rget K 7 x2) : Int32) = 6 → JC (D + 8) m_V_fillOneOf o K' 57 (fun G => [(0, .ref (cp_b G + 6)), (1, .int x1), (2, .int x2), (3, .int x2), (4, .int x2)]) (fun _ => []) K) ∧ (((rget K 7 x2) : Int32) = 6 → ∃ r6 T4, KC (D + 7) m_V_isSmallWithout (fun G => [.ref (cp_b G + 6), .int x2, .int x2]) K (fun _ => some (.int r6)) T4 ∧ ((¬ (r6 : Int32) = 0 → JC (D + 8) m_V_fillOneOf o K' 57 (fun G => [(0, .ref (cp_b G + 6)), (1, .int x1), (2, .int x2), (3, .int x2), (4, .int x2)]) (fun _ => []) T4) ∧ ((r6 : Int32) = 0 → (o = (fun _ => .inl (some (.int 0))) ∧ K' = T4)))))) ∧ ((x2 : Int32) = x2 → (o = (fun _ => .inl (some (.int 1))) ∧ K' = K)))))) ∧ (¬ ((if rget K 7 x1 = 4 then 1 else 0) : Int32) = 0 → ((¬ (x1 : Int32) = x1 → ((¬ (x1 : Int32) = x1 → ((¬ ((rget K 7 x1) : Int32) = 6 → JC (D + 8) m_V_fillOneOf o K' 57 (fun G => [(0, .ref (cp_b G + 6)), (1, .int x1), (2, .int x2), (3, .int x1), (4, .int x1)]) (fun _ => []) K) ∧ (((rget K 7 x1) : Int32) = 6 → ∃ r9 T7, KC (D + 7) m_V_isSmallWithout (fun G => [.ref (cp_b G + 6), .int x1, .int x1]) K (fun _ => some (.int r9)) T7 ∧ ((¬ (r9 : Int32) = 0 → JC (D + 8) m_V_fillOneOf o K' 57 (fun G => [(0, .ref (cp_b G + 6)), (1, .int x1), (2, .int x2), (3, .int x1), (4, .int x1)]) (fun _ => []) T7) ∧ ((r9 : Int32) = 0 → (o = (fun _ => .inl (some (.int 0))) ∧ K' = T7)))))) ∧ ((x1 : Int32) = x1 → (o = (fun _ => .inl (some (.int 1))) ∧ K' = K)))) ∧ ((x1 : Int32) = x1 → ((¬ (x2 : Int32) = x1 → ((¬ ((rget K 7 x2) : Int32) = 6 → JC (D + 8) m_V_fillOneOf o K' 57 (fun G => [(0, .ref (cp_b G + 6)), (1, .int x1), (2, .int x2), (3, .int x1), (4, .int x2)]) (fun _ => []) K) ∧ (((rget K 7 x2) : Int32) = 6 → ∃ r12 T10, KC (D + 7) m_V_isSmallWithout (fun G => [.ref (cp_b G + 6), .int x2, .int x1]) K (fun _ => some (.int r12)) T10 ∧ ((¬ (r12 : Int32) = 0 → JC (D + 8) m_V_fillOneOf o K' 57 (fun G => [(0, .ref (cp_b G + 6)), (1, .int x1), (2, .int x2), (3, .int x1), (4, .int x2)]) (fun _ => []) T10) ∧ ((r12 : Int32) = 0 → (o = (fun _ => .inl (some (.int 0))) ∧ K' = T10)))))) ∧ ((x2 : Int32) = x1 → (o = (fun _ => .inl (some (.int 1))) ∧ K' = K)))))))
theorem b_V_fillOneOf_0 {D : Nat} {o : cp_G → cp_O} {K' K : cp_K} {x1 : Int32} {x2 : Int32} (w : wp_V_fillOneOf_0 D o K' K x1 x2) : JC (D + 8) m_V_fillOneOf o K' 0 (fun G => [(0, .ref (cp_b G + 6)), (1, .int x1), (2, .int x2)]) (fun _ => []) K := by
  unfold wp_V_fillOneOf_0 at w
  intro G H d n0 z0 hd
  show kV G H m_V_fillOneOf d n0 z0 (o G) K' 0 [(0, .ref (cp_b G + 6)), (1, .int x1), (2, .int x2)] [] K
  refine kv_p (fun _ _ _ _ _ _ v => vv_aload_n (pc := 0) d_V_fillOneOf_0 rfl v) ?_
  refine kv_p (fun _ _ _ _ _ _ v => vv_iload_n (pc := 1) d_V_fillOneOf_1 rfl v) ?_
  refine kw_cv (pc := 2) (As := [.int x1]) (As0 := (fun G => [.ref (cp_b G + 6), .int x1])) d_V_fillOneOf_2 (C_VisOpenHole) rfl k_V_isOpenHole ml_V_77 (Or.inl ⟨by decide, rfl⟩) (by omega) (Nat.le_of_ble_eq_true rfl) ?_
  by_cases hc : ((if rget K 7 x1 = 4 then 1 else 0) : Int32) = 0
  · replace w := w.1 hc
    refine kv_p (fun _ _ _ _ _ _ v => vv_if_eq (pc := 5) (tgt := 12) d_V_fillOneOf_5 rfl (fun _ => v) (fun hn => absurd hc hn)) ?_
    refine kv_p (fun _ _ _ _ _ _ v => vv_iload_n (pc := 12) d_V_fillOneOf_12 rfl v) ?_
    refine kv_p (fun _ _ _ _ _ _ v => vv_istore_n (pc := 13) d_V_fillOneOf_13 (Nat.le_of_ble_eq_true rfl) v) ?_
    refine kv_p (fun _ _ _ _ _ _ v => vv_iload_n (pc := 14) d_V_fillOneOf_14 rfl v) ?_
    refine kv_p (fun _ _ _ _ _ _ v => vv_iload_n (pc := 15) d_V_fillOneOf_15 rfl v) ?_
    by_cases hc : (x2 : Int32) = x1
    · replace w := w.2 hc
      refine kv_p (fun _ _ _ _ _ _ v => vv_icmp_ne (pc := 16) (tgt := 23) d_V_fillOneOf_16 rfl (fun hn => absurd hc hn) (fun _ => v)) ?_
      refine kv_p (fun _ _ _ _ _ _ v => vv_iload_n (pc := 19) d_V_fillOneOf_19 rfl v) ?_
      refine kv_p (fun _ _ _ _ _ _ v => vv_goto (pc := 20) (tgt := 24) d_V_fillOneOf_20 rfl v) ?_
      refine kv_p (fun _ _ _ _ _ _ v => vv_istore (pc := 24) d_V_fillOneOf_24 (Nat.le_of_ble_eq_true rfl) v) ?_
      refine kv_p (fun _ _ _ _ _ _ v => vv_iload (pc := 26) d_V_fillOneOf_26 rfl v) ?_
      refine kv_p (fun _ _ _ _ _ _ v => vv_iload_n (pc := 28) d_V_fillOneOf_28 rfl v) ?_
      by_cases hc : (x2 : Int32) = x2
      · replace w := w.2 hc
        refine kv_p (fun _ _ _ _ _ _ v => vv_icmp_ne (pc := 29) (tgt := 34) d_V_fillOneOf_29 rfl (fun hn => absurd hc hn) (fun _ => v)) ?_
        refine kv_p (fun _ _ _ _ _ _ v => vv_iconst (pc := 32) (v := 1) d_V_fillOneOf_32 rfl v) ?_
        obtain ⟨rfl, rfl⟩ := w
        exact kv_e (fun _ _ => vv_zret (pc := 33) d_V_fillOneOf_33 rfl rfl)
      · replace w := w.1 hc
        refine kv_p (fun _ _ _ _ _ _ v => vv_icmp_ne (pc := 29) (tgt := 34) d_V_fillOneOf_29 rfl (fun _ => v) (fun hn => absurd hn hc)) ?_
        refine kv_p (fun _ _ _ _ _ _ v => vv_aload_n (pc := 34) d_V_fillOneOf_34 rfl v) ?_
        refine kv_p (fun _ _ _ _ _ _ v => vv_iload (pc := 35) d_V_fillOneOf_35 rfl v) ?_
        refine kw_cv (pc := 37) (As := [.int x2]) (As0 := (fun G => [.ref (cp_b G + 6), .int x2])) d_V_fillOneOf_37 (C_VsortOf) rfl k_V_sortOf ml_V_91 (Or.inl ⟨by decide, rfl⟩) (by omega) (Nat.le_of_ble_eq_true rfl) ?_
        refine kv_p (fun _ _ _ _ _ _ v => vv_bipush (pc := 40) (v := 6) d_V_fillOneOf_40 rfl v) ?_
        by_cases hc : ((rget K 7 x2) : Int32) = 6
        · replace w := w.2 hc
          refine kv_p (fun _ _ _ _ _ _ v => vv_icmp_ne (pc := 42) (tgt := 57) d_V_fillOneOf_42 rfl (fun hn => absurd hc hn) (fun _ => v)) ?_
          refine kv_p (fun _ _ _ _ _ _ v => vv_aload_n (pc := 45) d_V_fillOneOf_45 rfl v) ?_
          refine kv_p (fun _ _ _ _ _ _ v => vv_iload (pc := 46) d_V_fillOneOf_46 rfl v) ?_
          refine kv_p (fun _ _ _ _ _ _ v => vv_iload_n (pc := 48) d_V_fillOneOf_48 rfl v) ?_
          obtain ⟨r6, T4, c5, w⟩ := w
          refine kw_cv (pc := 49) (As := [.int x2, .int x2]) d_V_fillOneOf_49 c5 rfl k_V_isSmallWithout ml_V_94 (Or.inl ⟨by decide, rfl⟩) (by omega) (Nat.le_of_ble_eq_true rfl) ?_
          by_cases hc : (r6 : Int32) = 0
          · replace w := w.2 hc
            refine kv_p (fun _ _ _ _ _ _ v => vv_if_ne (pc := 52) (tgt := 57) d_V_fillOneOf_52 rfl (fun hn => absurd hc hn) (fun _ => v)) ?_
            refine kv_p (fun _ _ _ _ _ _ v => vv_iconst (pc := 55) (v := 0) d_V_fillOneOf_55 rfl v) ?_
            obtain ⟨rfl, rfl⟩ := w
            exact kv_e (fun _ _ => vv_zret (pc := 56) d_V_fillOneOf_56 rfl rfl)
          · replace w := w.1 hc
            refine kv_p (fun _ _ _ _ _ _ v => vv_if_ne (pc := 52) (tgt := 57) d_V_fillOneOf_52 rfl (fun _ => v) (fun hn => absurd hn hc)) ?_
            exact kw_sub [2, 3, 4, 1, 0] rfl (w G H d n0 z0 hd)
        · replace w := w.1 hc
          refine kv_p (fun _ _ _ _ _ _ v => vv_icmp_ne (pc := 42) (tgt := 57) d_V_fillOneOf_42 rfl (fun _ => v) (fun hn => absurd hn hc)) ?_
          exact kw_sub [2, 3, 4, 1, 0] rfl (w G H d n0 z0 hd)
    · replace w := w.1 hc
      refine kv_p (fun _ _ _ _ _ _ v => vv_icmp_ne (pc := 16) (tgt := 23) d_V_fillOneOf_16 rfl (fun _ => v) (fun hn => absurd hn hc)) ?_
      refine kv_p (fun _ _ _ _ _ _ v => vv_iload_n (pc := 23) d_V_fillOneOf_23 rfl v) ?_
      refine kv_p (fun _ _ _ _ _ _ v => vv_istore (pc := 24) d_V_fillOneOf_24 (Nat.le_of_ble_eq_true rfl) v) ?_
      refine kv_p (fun _ _ _ _ _ _ v => vv_iload (pc := 26) d_V_fillOneOf_26 rfl v) ?_
      refine kv_p (fun _ _ _ _ _ _ v => vv_iload_n (pc := 28) d_V_fillOneOf_28 rfl v) ?_
      by_cases hc : (x1 : Int32) = x2
      · replace w := w.2 hc
        refine kv_p (fun _ _ _ _ _ _ v => vv_icmp_ne (pc := 29) (tgt := 34) d_V_fillOneOf_29 rfl (fun hn => absurd hc hn) (fun _ => v)) ?_
        refine kv_p (fun _ _ _ _ _ _ v => vv_iconst (pc := 32) (v := 1) d_V_fillOneOf_32 rfl v) ?_
        obtain ⟨rfl, rfl⟩ := w
        exact kv_e (fun _ _ => vv_zret (pc := 33) d_V_fillOneOf_33 rfl rfl)
      · replace w := w.1 hc
        refine kv_p (fun _ _ _ _ _ _ v => vv_icmp_ne (pc := 29) (tgt := 34) d_V_fillOneOf_29 rfl (fun _ => v) (fun hn => absurd hn hc)) ?_
        refine kv_p (fun _ _ _ _ _ _ v => vv_aload_n (pc := 34) d_V_fillOneOf_34 rfl v) ?_
        refine kv_p (fun _ _ _ _ _ _ v => vv_iload (pc := 35) d_V_fillOneOf_35 rfl v) ?_
        refine kw_cv (pc := 37) (As := [.int x1]) (As0 := (fun G => [.ref (cp_b G + 6), .int x1])) d_V_fillOneOf_37 (C_VsortOf) rfl k_V_sortOf ml_V_91 (Or.inl ⟨by decide, rfl⟩) (by omega) (Nat.le_of_ble_eq_true rfl) ?_
        refine kv_p (fun _ _ _ _ _ _ v => vv_bipush (pc := 40) (v := 6) d_V_fillOneOf_40 rfl v) ?_
        by_cases hc : ((rget K 7 x1) : Int32) = 6
        · replace w := w.2 hc
          refine kv_p (fun _ _ _ _ _ _ v => vv_icmp_ne (pc := 42) (tgt := 57) d_V_fillOneOf_42 rfl (fun hn => absurd hc hn) (fun _ => v)) ?_
          refine kv_p (fun _ _ _ _ _ _ v => vv_aload_n (pc := 45) d_V_fillOneOf_45 rfl v) ?_
          refine kv_p (fun _ _ _ _ _ _ v => vv_iload (pc := 46) d_V_fillOneOf_46 rfl v) ?_
          refine kv_p (fun _ _ _ _ _ _ v => vv_iload_n (pc := 48) d_V_fillOneOf_48 rfl v) ?_
          obtain ⟨r3, T1, c2, w⟩ := w
          refine kw_cv (pc := 49) (As := [.int x1, .int x2]) d_V_fillOneOf_49 c2 rfl k_V_isSmallWithout ml_V_94 (Or.inl ⟨by decide, rfl⟩) (by omega) (Nat.le_of_ble_eq_true rfl) ?_
          by_cases hc : (r3 : Int32) = 0
          · replace w := w.2 hc
            refine kv_p (fun _ _ _ _ _ _ v => vv_if_ne (pc := 52) (tgt := 57) d_V_fillOneOf_52 rfl (fun hn => absurd hc hn) (fun _ => v)) ?_
            refine kv_p (fun _ _ _ _ _ _ v => vv_iconst (pc := 55) (v := 0) d_V_fillOneOf_55 rfl v) ?_
            obtain ⟨rfl, rfl⟩ := w
            exact kv_e (fun _ _ => vv_zret (pc := 56) d_V_fillOneOf_56 rfl rfl)
          · replace w := w.1 hc
            refine kv_p (fun _ _ _ _ _ _ v => vv_if_ne (pc := 52) (tgt := 57) d_V_fillOneOf_52 rfl (fun _ => v) (fun hn => absurd hn hc)) ?_
            exact kw_sub [2, 3, 4, 1, 0] rfl (w G H d n0 z0 hd)
        · replace w := w.1 hc
          refine kv_p (fun _ _ _ _ _ _ v => vv_icmp_ne (pc := 42) (tgt := 57) d_V_fillOneOf_42 rfl (fun _ => v) (fun hn => absurd hn hc)) ?_
          exact kw_sub [2, 3, 4, 1, 0] rfl (w G H d n0 z0 hd)
  · replace w := w.2 hc
    refine kv_p (fun _ _ _ _ _ _ v => vv_if_eq (pc := 5) (tgt := 12) d_V_fillOneOf_5 rfl (fun hn => absurd hn hc) (fun _ => v)) ?_
    refine kv_p (fun _ _ _ _ _ _ v => vv_iload_n (pc := 8) d_V_fillOneOf_8 rfl v) ?_
    refine kv_p (fun _ _ _ _ _ _ v => vv_goto (pc := 9) (tgt := 13) d_V_fillOneOf_9 rfl v) ?_
    refine kv_p (fun _ _ _ _ _ _ v => vv_istore_n (pc := 13) d_V_fillOneOf_13 (Nat.le_of_ble_eq_true rfl) v) ?_
    refine kv_p (fun _ _ _ _ _ _ v => vv_iload_n (pc := 14) d_V_fillOneOf_14 rfl v) ?_
    refine kv_p (fun _ _ _ _ _ _ v => vv_iload_n (pc := 15) d_V_fillOneOf_15 rfl v) ?_
    by_cases hc : (x1 : Int32) = x1
    · replace w := w.2 hc
      refine kv_p (fun _ _ _ _ _ _ v => vv_icmp_ne (pc := 16) (tgt := 23) d_V_fillOneOf_16 rfl (fun hn => absurd hc hn) (fun _ => v)) ?_
      refine kv_p (fun _ _ _ _ _ _ v => vv_iload_n (pc := 19) d_V_fillOneOf_19 rfl v) ?_
      refine kv_p (fun _ _ _ _ _ _ v => vv_goto (pc := 20) (tgt := 24) d_V_fillOneOf_20 rfl v) ?_
      refine kv_p (fun _ _ _ _ _ _ v => vv_istore (pc := 24) d_V_fillOneOf_24 (Nat.le_of_ble_eq_true rfl) v) ?_
      refine kv_p (fun _ _ _ _ _ _ v => vv_iload (pc := 26) d_V_fillOneOf_26 rfl v) ?_
      refine kv_p (fun _ _ _ _ _ _ v => vv_iload_n (pc := 28) d_V_fillOneOf_28 rfl v) ?_
      by_cases hc : (x2 : Int32) = x1
      · replace w := w.2 hc
        refine kv_p (fun _ _ _ _ _ _ v => vv_icmp_ne (pc := 29) (tgt := 34) d_V_fillOneOf_29 rfl (fun hn => absurd hc hn) (fun _ => v)) ?_
        refine kv_p (fun _ _ _ _ _ _ v => vv_iconst (pc := 32) (v := 1) d_V_fillOneOf_32 rfl v) ?_
        obtain ⟨rfl, rfl⟩ := w
        exact kv_e (fun _ _ => vv_zret (pc := 33) d_V_fillOneOf_33 rfl rfl)
      · replace w := w.1 hc
        refine kv_p (fun _ _ _ _ _ _ v => vv_icmp_ne (pc := 29) (tgt := 34) d_V_fillOneOf_29 rfl (fun _ => v) (fun hn => absurd hn hc)) ?_
        refine kv_p (fun _ _ _ _ _ _ v => vv_aload_n (pc := 34) d_V_fillOneOf_34 rfl v) ?_
        refine kv_p (fun _ _ _ _ _ _ v => vv_iload (pc := 35) d_V_fillOneOf_35 rfl v) ?_
        refine kw_cv (pc := 37) (As := [.int x2]) (As0 := (fun G => [.ref (cp_b G + 6), .int x2])) d_V_fillOneOf_37 (C_VsortOf) rfl k_V_sortOf ml_V_91 (Or.inl ⟨by decide, rfl⟩) (by omega) (Nat.le_of_ble_eq_true rfl) ?_
        refine kv_p (fun _ _ _ _ _ _ v => vv_bipush (pc := 40) (v := 6) d_V_fillOneOf_40 rfl v) ?_
        by_cases hc : ((rget K 7 x2) : Int32) = 6
        · replace w := w.2 hc
          refine kv_p (fun _ _ _ _ _ _ v => vv_icmp_ne (pc := 42) (tgt := 57) d_V_fillOneOf_42 rfl (fun hn => absurd hc hn) (fun _ => v)) ?_
          refine kv_p (fun _ _ _ _ _ _ v => vv_aload_n (pc := 45) d_V_fillOneOf_45 rfl v) ?_
          refine kv_p (fun _ _ _ _ _ _ v => vv_iload (pc := 46) d_V_fillOneOf_46 rfl v) ?_
          refine kv_p (fun _ _ _ _ _ _ v => vv_iload_n (pc := 48) d_V_fillOneOf_48 rfl v) ?_
          obtain ⟨r12, T10, c11, w⟩ := w
          refine kw_cv (pc := 49) (As := [.int x2, .int x1]) d_V_fillOneOf_49 c11 rfl k_V_isSmallWithout ml_V_94 (Or.inl ⟨by decide, rfl⟩) (by omega) (Nat.le_of_ble_eq_true rfl) ?_
          by_cases hc : (r12 : Int32) = 0
          · replace w := w.2 hc
            refine kv_p (fun _ _ _ _ _ _ v => vv_if_ne (pc := 52) (tgt := 57) d_V_fillOneOf_52 rfl (fun hn => absurd hc hn) (fun _ => v)) ?_
            refine kv_p (fun _ _ _ _ _ _ v => vv_iconst (pc := 55) (v := 0) d_V_fillOneOf_55 rfl v) ?_
            obtain ⟨rfl, rfl⟩ := w
            exact kv_e (fun _ _ => vv_zret (pc := 56) d_V_fillOneOf_56 rfl rfl)
          · replace w := w.1 hc
            refine kv_p (fun _ _ _ _ _ _ v => vv_if_ne (pc := 52) (tgt := 57) d_V_fillOneOf_52 rfl (fun _ => v) (fun hn => absurd hn hc)) ?_
            exact kw_sub [2, 3, 4, 1, 0] rfl (w G H d n0 z0 hd)
        · replace w := w.1 hc
          refine kv_p (fun _ _ _ _ _ _ v => vv_icmp_ne (pc := 42) (tgt := 57) d_V_fillOneOf_42 rfl (fun _ => v) (fun hn => absurd hn hc)) ?_
          exact kw_sub [2, 3, 4, 1, 0] rfl (w G H d n0 z0 hd)
    · replace w := w.1 hc
      refine kv_p (fun _ _ _ _ _ _ v => vv_icmp_ne (pc := 16) (tgt := 23) d_V_fillOneOf_16 rfl (fun _ => v) (fun hn => absurd hn hc)) ?_
      refine kv_p (fun _ _ _ _ _ _ v => vv_iload_n (pc := 23) d_V_fillOneOf_23 rfl v) ?_
      refine kv_p (fun _ _ _ _ _ _ v => vv_istore (pc := 24) d_V_fillOneOf_24 (Nat.le_of_ble_eq_true rfl) v) ?_
      refine kv_p (fun _ _ _ _ _ _ v => vv_iload (pc := 26) d_V_fillOneOf_26 rfl v) ?_
      refine kv_p (fun _ _ _ _ _ _ v => vv_iload_n (pc := 28) d_V_fillOneOf_28 rfl v) ?_
      by_cases hc : (x1 : Int32) = x1
      · replace w := w.2 hc
        refine kv_p (fun _ _ _ _ _ _ v => vv_icmp_ne (pc := 29) (tgt := 34) d_V_fillOneOf_29 rfl (fun hn => absurd hc hn) (fun _ => v)) ?_
        refine kv_p (fun _ _ _ _ _ _ v => vv_iconst (pc := 32) (v := 1) d_V_fillOneOf_32 rfl v) ?_
        obtain ⟨rfl, rfl⟩ := w
        exact kv_e (fun _ _ => vv_zret (pc := 33) d_V_fillOneOf_33 rfl rfl)
      · replace w := w.1 hc
        refine kv_p (fun _ _ _ _ _ _ v => vv_icmp_ne (pc := 29) (tgt := 34) d_V_fillOneOf_29 rfl (fun _ => v) (fun hn => absurd hn hc)) ?_
        refine kv_p (fun _ _ _ _ _ _ v => vv_aload_n (pc := 34) d_V_fillOneOf_34 rfl v) ?_
        refine kv_p (fun _ _ _ _ _ _ v => vv_iload (pc := 35) d_V_fillOneOf_35 rfl v) ?_
        refine kw_cv (pc := 37) (As := [.int x1]) (As0 := (fun G => [.ref (cp_b G + 6), .int x1])) d_V_fillOneOf_37 (C_VsortOf) rfl k_V_sortOf ml_V_91 (Or.inl ⟨by decide, rfl⟩) (by omega) (Nat.le_of_ble_eq_true rfl) ?_
        refine kv_p (fun _ _ _ _ _ _ v => vv_bipush (pc := 40) (v := 6) d_V_fillOneOf_40 rfl v) ?_
        by_cases hc : ((rget K 7 x1) : Int32) = 6
        · replace w := w.2 hc
          refine kv_p (fun _ _ _ _ _ _ v => vv_icmp_ne (pc := 42) (tgt := 57) d_V_fillOneOf_42 rfl (fun hn => absurd hc hn) (fun _ => v)) ?_
          refine kv_p (fun _ _ _ _ _ _ v => vv_aload_n (pc := 45) d_V_fillOneOf_45 rfl v) ?_
          refine kv_p (fun _ _ _ _ _ _ v => vv_iload (pc := 46) d_V_fillOneOf_46 rfl v) ?_
          refine kv_p (fun _ _ _ _ _ _ v => vv_iload_n (pc := 48) d_V_fillOneOf_48 rfl v) ?_
          obtain ⟨r9, T7, c8, w⟩ := w
          refine kw_cv (pc := 49) (As := [.int x1, .int x1]) d_V_fillOneOf_49 c8 rfl k_V_isSmallWithout ml_V_94 (Or.inl ⟨by decide, rfl⟩) (by omega) (Nat.le_of_ble_eq_true rfl) ?_
          by_cases hc : (r9 : Int32) = 0
          · replace w := w.2 hc
            refine kv_p (fun _ _ _ _ _ _ v => vv_if_ne (pc := 52) (tgt := 57) d_V_fillOneOf_52 rfl (fun hn => absurd hc hn) (fun _ => v)) ?_
            refine kv_p (fun _ _ _ _ _ _ v => vv_iconst (pc := 55) (v := 0) d_V_fillOneOf_55 rfl v) ?_
            obtain ⟨rfl, rfl⟩ := w
            exact kv_e (fun _ _ => vv_zret (pc := 56) d_V_fillOneOf_56 rfl rfl)
          · replace w := w.1 hc
            refine kv_p (fun _ _ _ _ _ _ v => vv_if_ne (pc := 52) (tgt := 57) d_V_fillOneOf_52 rfl (fun _ => v) (fun hn => absurd hn hc)) ?_
            exact kw_sub [2, 3, 4, 1, 0] rfl (w G H d n0 z0 hd)
        · replace w := w.1 hc
          refine kv_p (fun _ _ _ _ _ _ v => vv_icmp_ne (pc := 42) (tgt := 57) d_V_fillOneOf_42 rfl (fun _ => v) (fun hn => absurd hn hc)) ?_
          exact kw_sub [2, 3, 4, 1, 0] rfl (w G H d n0 z0 hd)
theorem c_V_fillOneOf {D : Nat} {o : cp_G → Option Value} {K' K : cp_K} {x1 : Int32} {x2 : Int32} (w : wp_V_fillOneOf_0 D (fun G => .inl (o G)) K' K x1 x2) : KC (D + 8) m_V_fillOneOf (fun G => [.ref (cp_b G + 6), .int x1, .int x2]) K o K' := KC.of2 rfl (fun G => by exact ⟨Nat.le_of_ble_eq_true rfl, rfl⟩) (b_V_fillOneOf_0 w)
def wp_V_fillOneOf_57 (D : Nat) (o : cp_G → cp_O) (K' K : cp_K) (x1 : Int32) (x2 : Int32) (x3 : Int32) (x4 : Int32) : Prop := (o = (fun _ => .inl (some (.int 1))) ∧ K' = (kset K 7 (x3 + 1) x4))
theorem b_V_fillOneOf_57 {D : Nat} {o : cp_G → cp_O} {K' K : cp_K} {x1 : Int32} {x2 : Int32} {x3 : Int32} {x4 : Int32} (w : wp_V_fillOneOf_57 D o K' K x1 x2 x3 x4) : JC (D + 8) m_V_fillOneOf o K' 57 (fun G => [(0, .ref (cp_b G + 6)), (1, .int x1), (2, .int x2), (3, .int x3), (4, .int x4)]) (fun _ => []) K := by
  unfold wp_V_fillOneOf_57 at w
  intro G H d n0 z0 hd
  show kV G H m_V_fillOneOf d n0 z0 (o G) K' 57 [(0, .ref (cp_b G + 6)), (1, .int x1), (2, .int x2), (3, .int x3), (4, .int x4)] [] K
  refine kv_p (fun _ _ _ _ _ _ v => vv_aload_n (pc := 57) d_V_fillOneOf_57 rfl v) ?_
  refine kw_gf (pc := 58) 7 d_V_fillOneOf_58 fl_V_14 (Or.inl ⟨by decide, rfl⟩) rfl (by decide) ?_
  refine kv_p (fun _ _ _ _ _ _ v => vv_iload_n (pc := 61) d_V_fillOneOf_61 rfl v) ?_
  refine kv_p (fun _ _ _ _ _ _ v => vv_iconst (pc := 62) (v := 1) d_V_fillOneOf_62 rfl v) ?_
  refine kv_p (fun _ _ _ _ _ _ v => vv_iadd (pc := 63) d_V_fillOneOf_63 v) ?_
  refine kv_p (fun _ _ _ _ _ _ v => vv_iload (pc := 64) d_V_fillOneOf_64 rfl v) ?_
  refine kw_cr (pc := 66) (As := [.int (x3 + 1), .int x4]) (As0 := (fun G => [.ref (cp_b G + 7), .int (x3 + 1), .int x4])) d_V_fillOneOf_66 (K_set (by decide)) rfl k_R_set ml_V_55 (by decide) (by omega) (Nat.le_of_ble_eq_true rfl) ?_
  refine kv_p (fun _ _ _ _ _ _ v => vv_iconst (pc := 69) (v := 1) d_V_fillOneOf_69 rfl v) ?_
  obtain ⟨rfl, rfl⟩ := w
  exact kv_e (fun _ _ => vv_zret (pc := 70) d_V_fillOneOf_70 rfl rfl)
def wp_V_compare_0 (D : Nat) (o : cp_G → cp_O) (K' K : cp_K) (x1 : Int32) (x2 : Int32) : Prop := rsz K 11 < 16000 ∧ JC (D + 8) m_V_compare o K' 8 (fun G => [(0, .ref (cp_b G + 6)), (1, .int x1), (2, .int x2), (3, .int 0)]) (fun _ => []) (spairs K x1 x2)
theorem b_V_compare_0 {D : Nat} {o : cp_G → cp_O} {K' K : cp_K} {x1 : Int32} {x2 : Int32} (w : wp_V_compare_0 D o K' K x1 x2) : JC (D + 8) m_V_compare o K' 0 (fun G => [(0, .ref (cp_b G + 6)), (1, .int x1), (2, .int x2)]) (fun _ => []) K := by
  unfold wp_V_compare_0 at w
  intro G H d n0 z0 hd
  show kV G H m_V_compare d n0 z0 (o G) K' 0 [(0, .ref (cp_b G + 6)), (1, .int x1), (2, .int x2)] [] K
  refine kv_p (fun _ _ _ _ _ _ v => vv_aload_n (pc := 0) d_V_compare_0 rfl v) ?_
  refine kv_p (fun _ _ _ _ _ _ v => vv_iload_n (pc := 1) d_V_compare_1 rfl v) ?_
  refine kv_p (fun _ _ _ _ _ _ v => vv_iload_n (pc := 2) d_V_compare_2 rfl v) ?_
  obtain ⟨b1, w⟩ := w
  refine kw_cv (pc := 3) (As := [.int x1, .int x2]) (As0 := (fun G => [.ref (cp_b G + 6), .int x1, .int x2])) d_V_compare_3 (C_VstartPairs b1) rfl k_V_startPairs ml_V_74 (Or.inl ⟨by decide, rfl⟩) (by omega) (Nat.le_of_ble_eq_true rfl) ?_
  refine kv_p (fun _ _ _ _ _ _ v => vv_iconst (pc := 6) (v := 0) d_V_compare_6 rfl v) ?_
  refine kv_p (fun _ _ _ _ _ _ v => vv_istore_n (pc := 7) d_V_compare_7 (Nat.le_of_ble_eq_true rfl) v) ?_
  exact kw_sub [1, 2, 3, 0] rfl (w G H d n0 z0 hd)
theorem c_V_compare {D : Nat} {o : cp_G → Option Value} {K' K : cp_K} {x1 : Int32} {x2 : Int32} (w : wp_V_compare_0 D (fun G => .inl (o G)) K' K x1 x2) : KC (D + 8) m_V_compare (fun G => [.ref (cp_b G + 6), .int x1, .int x2]) K o K' := KC.of2 rfl (fun G => by exact ⟨Nat.le_of_ble_eq_true rfl, rfl⟩) (b_V_compare_0 w)
def wp_V_compare_8 (D : Nat) (o : cp_G → cp_O) (K' K : cp_K) (x1 : Int32) (x2 : Int32) (x3 : Int32) : Prop := ((1000 ≤ (x3 : Int32) → ((¬ ((nI (rsz K 11)) : Int32) = 0 → (o = (fun _ => .inl (some (.int (-1)))) ∧ K' = K)) ∧ (((nI (rsz K 11)) : Int32) = 0 → (o = (fun _ => .inl (some (.int 1))) ∧ K' = K)))) ∧ (¬ 1000 ≤ (x3 : Int32) → ((¬ ((nI (rsz K 11)) : Int32) = 0 → ∃ r3 T1, KC (D + 7) m_V_lookThrough (fun G => [.ref (cp_b G + 6), .int (rtop K 11)]) (kpop K 11) (fun _ => some (.int r3)) T1 ∧ ∃ r6 T4, KC (D + 7) m_V_lookThrough (fun G => [.ref (cp_b G + 6), .int (rtop T1 11)]) (kpop T1 11) (fun _ => some (.int r6)) T4 ∧ ((¬ ((if rget T4 7 r6 = 4 then 1 else 0) : Int32) = 0 → (o = (fun _ => .inl (some (.int (-1)))) ∧ K' = T4)) ∧ (((if rget T4 7 r6 = 4 then 1 else 0) : Int32) = 0 → ((((if rget T4 7 r3 = 4 then 1 else 0) : Int32) = 0 → ((¬ ((hsh T4 r6 r3) : Int32) = 0 → ∃ T7, KC (D + 7) m_V_pushArgumentPairs (fun G => [.ref (cp_b G + 6), .int r6, .int r3]) T4 (fun _ => none) T7 ∧ JC (D + 8) m_V_compare o K' 8 (fun G => [(0, .ref (cp_b G + 6)), (1, .int x1), (2, .int x2), (3, .int (x3 + 1))]) (fun _ => []) T7) ∧ (((hsh T4 r6 r3) : Int32) = 0 → (o = (fun _ => .inl (some (.int 0))) ∧ K' = T4)))) ∧ (¬ ((if rget T4 7 r3 = 4 then 1 else 0) : Int32) = 0 → (o = (fun _ => .inl (some (.int (-1)))) ∧ K' = T4)))))) ∧ (((nI (rsz K 11)) : Int32) = 0 → (o = (fun _ => .inl (some (.int 1))) ∧ K' = K)))))
theorem b_V_compare_8 {D : Nat} {o : cp_G → cp_O} {K' K : cp_K} {x1 : Int32} {x2 : Int32} {x3 : Int32} (w : wp_V_compare_8 D o K' K x1 x2 x3) : JC (D + 8) m_V_compare o K' 8 (fun G => [(0, .ref (cp_b G + 6)), (1, .int x1), (2, .int x2), (3, .int x3)]) (fun _ => []) K := by
  unfold wp_V_compare_8 at w
  intro G H d n0 z0 hd
  show kV G H m_V_compare d n0 z0 (o G) K' 8 [(0, .ref (cp_b G + 6)), (1, .int x1), (2, .int x2), (3, .int x3)] [] K
  refine kv_p (fun _ _ _ _ _ _ v => vv_iload_n (pc := 8) d_V_compare_8 rfl v) ?_
  refine kv_p (fun _ _ _ _ _ _ v => vv_sipush (pc := 9) (v := 1000) d_V_compare_9 rfl v) ?_
  by_cases hc : 1000 ≤ (x3 : Int32)
  · replace w := w.1 hc
    refine kv_p (fun _ _ _ _ _ _ v => vv_icmp_ge (pc := 12) (tgt := 100) d_V_compare_12 rfl (fun _ => v) (fun hn => absurd hc hn)) ?_
    refine kv_p (fun _ _ _ _ _ _ v => vv_aload_n (pc := 100) d_V_compare_100 rfl v) ?_
    refine kw_gf (pc := 101) 11 d_V_compare_101 fl_V_23 (Or.inl ⟨by decide, rfl⟩) rfl (by decide) ?_
    refine kw_cr (pc := 104) (As := []) (As0 := (fun G => [.ref (cp_b G + 11)])) d_V_compare_104 (K_size (by decide)) rfl k_R_size ml_V_41 (by decide) (by omega) (Nat.le_of_ble_eq_true rfl) ?_
    by_cases hc : ((nI (rsz K 11)) : Int32) = 0
    · replace w := w.2 hc
      refine kv_p (fun _ _ _ _ _ _ v => vv_if_ne (pc := 107) (tgt := 114) d_V_compare_107 rfl (fun hn => absurd hc hn) (fun _ => v)) ?_
      refine kv_p (fun _ _ _ _ _ _ v => vv_iconst (pc := 110) (v := 1) d_V_compare_110 rfl v) ?_
      refine kv_p (fun _ _ _ _ _ _ v => vv_goto (pc := 111) (tgt := 115) d_V_compare_111 rfl v) ?_
      obtain ⟨rfl, rfl⟩ := w
      exact kv_e (fun _ _ => vv_iret (pc := 115) d_V_compare_115 rfl)
    · replace w := w.1 hc
      refine kv_p (fun _ _ _ _ _ _ v => vv_if_ne (pc := 107) (tgt := 114) d_V_compare_107 rfl (fun _ => v) (fun hn => absurd hn hc)) ?_
      refine kv_p (fun _ _ _ _ _ _ v => vv_iconst (pc := 114) (v := (-1)) d_V_compare_114 rfl v) ?_
      obtain ⟨rfl, rfl⟩ := w
      exact kv_e (fun _ _ => vv_iret (pc := 115) d_V_compare_115 rfl)
  · replace w := w.2 hc
    refine kv_p (fun _ _ _ _ _ _ v => vv_icmp_ge (pc := 12) (tgt := 100) d_V_compare_12 rfl (fun hn => absurd hn hc) (fun _ => v)) ?_
    refine kv_p (fun _ _ _ _ _ _ v => vv_aload_n (pc := 15) d_V_compare_15 rfl v) ?_
    refine kw_gf (pc := 16) 11 d_V_compare_16 fl_V_23 (Or.inl ⟨by decide, rfl⟩) rfl (by decide) ?_
    refine kw_cr (pc := 19) (As := []) (As0 := (fun G => [.ref (cp_b G + 11)])) d_V_compare_19 (K_size (by decide)) rfl k_R_size ml_V_41 (by decide) (by omega) (Nat.le_of_ble_eq_true rfl) ?_
    by_cases hc : ((nI (rsz K 11)) : Int32) = 0
    · replace w := w.2 hc
      refine kv_p (fun _ _ _ _ _ _ v => vv_if_ne (pc := 22) (tgt := 27) d_V_compare_22 rfl (fun hn => absurd hc hn) (fun _ => v)) ?_
      refine kv_p (fun _ _ _ _ _ _ v => vv_iconst (pc := 25) (v := 1) d_V_compare_25 rfl v) ?_
      obtain ⟨rfl, rfl⟩ := w
      exact kv_e (fun _ _ => vv_iret (pc := 26) d_V_compare_26 rfl)
    · replace w := w.1 hc
      refine kv_p (fun _ _ _ _ _ _ v => vv_if_ne (pc := 22) (tgt := 27) d_V_compare_22 rfl (fun _ => v) (fun hn => absurd hn hc)) ?_
      refine kv_p (fun _ _ _ _ _ _ v => vv_aload_n (pc := 27) d_V_compare_27 rfl v) ?_
      refine kv_p (fun _ _ _ _ _ _ v => vv_aload_n (pc := 28) d_V_compare_28 rfl v) ?_
      refine kw_gf (pc := 29) 11 d_V_compare_29 fl_V_23 (Or.inl ⟨by decide, rfl⟩) rfl (by decide) ?_
      refine kw_cr (pc := 32) (As := []) (As0 := (fun G => [.ref (cp_b G + 11)])) d_V_compare_32 (K_pop (by decide)) rfl k_R_pop ml_V_62 (by decide) (by omega) (Nat.le_of_ble_eq_true rfl) ?_
      obtain ⟨r3, T1, c2, w⟩ := w
      refine kw_cv (pc := 35) (As := [.int (rtop K 11)]) d_V_compare_35 c2 rfl k_V_lookThrough ml_V_65 (Or.inl ⟨by decide, rfl⟩) (by omega) (Nat.le_of_ble_eq_true rfl) ?_
      refine kv_p (fun _ _ _ _ _ _ v => vv_istore (pc := 38) d_V_compare_38 (Nat.le_of_ble_eq_true rfl) v) ?_
      refine kv_p (fun _ _ _ _ _ _ v => vv_aload_n (pc := 40) d_V_compare_40 rfl v) ?_
      refine kv_p (fun _ _ _ _ _ _ v => vv_aload_n (pc := 41) d_V_compare_41 rfl v) ?_
      refine kw_gf (pc := 42) 11 d_V_compare_42 fl_V_23 (Or.inl ⟨by decide, rfl⟩) rfl (by decide) ?_
      refine kw_cr (pc := 45) (As := []) (As0 := (fun G => [.ref (cp_b G + 11)])) d_V_compare_45 (K_pop (by decide)) rfl k_R_pop ml_V_62 (by decide) (by omega) (Nat.le_of_ble_eq_true rfl) ?_
      obtain ⟨r6, T4, c5, w⟩ := w
      refine kw_cv (pc := 48) (As := [.int (rtop T1 11)]) d_V_compare_48 c5 rfl k_V_lookThrough ml_V_65 (Or.inl ⟨by decide, rfl⟩) (by omega) (Nat.le_of_ble_eq_true rfl) ?_
      refine kv_p (fun _ _ _ _ _ _ v => vv_istore (pc := 51) d_V_compare_51 (Nat.le_of_ble_eq_true rfl) v) ?_
      refine kv_p (fun _ _ _ _ _ _ v => vv_aload_n (pc := 53) d_V_compare_53 rfl v) ?_
      refine kv_p (fun _ _ _ _ _ _ v => vv_iload (pc := 54) d_V_compare_54 rfl v) ?_
      refine kw_cv (pc := 56) (As := [.int r6]) (As0 := (fun G => [.ref (cp_b G + 6), .int r6])) d_V_compare_56 (C_VisOpenHole) rfl k_V_isOpenHole ml_V_77 (Or.inl ⟨by decide, rfl⟩) (by omega) (Nat.le_of_ble_eq_true rfl) ?_
      by_cases hc : ((if rget T4 7 r6 = 4 then 1 else 0) : Int32) = 0
      · replace w := w.2 hc
        refine kv_p (fun _ _ _ _ _ _ v => vv_if_ne (pc := 59) (tgt := 71) d_V_compare_59 rfl (fun hn => absurd hc hn) (fun _ => v)) ?_
        refine kv_p (fun _ _ _ _ _ _ v => vv_aload_n (pc := 62) d_V_compare_62 rfl v) ?_
        refine kv_p (fun _ _ _ _ _ _ v => vv_iload (pc := 63) d_V_compare_63 rfl v) ?_
        refine kw_cv (pc := 65) (As := [.int r3]) (As0 := (fun G => [.ref (cp_b G + 6), .int r3])) d_V_compare_65 (C_VisOpenHole) rfl k_V_isOpenHole ml_V_77 (Or.inl ⟨by decide, rfl⟩) (by omega) (Nat.le_of_ble_eq_true rfl) ?_
        by_cases hc : ((if rget T4 7 r3 = 4 then 1 else 0) : Int32) = 0
        · replace w := w.1 hc
          refine kv_p (fun _ _ _ _ _ _ v => vv_if_eq (pc := 68) (tgt := 73) d_V_compare_68 rfl (fun _ => v) (fun hn => absurd hc hn)) ?_
          refine kv_p (fun _ _ _ _ _ _ v => vv_aload_n (pc := 73) d_V_compare_73 rfl v) ?_
          refine kv_p (fun _ _ _ _ _ _ v => vv_iload (pc := 74) d_V_compare_74 rfl v) ?_
          refine kv_p (fun _ _ _ _ _ _ v => vv_iload (pc := 76) d_V_compare_76 rfl v) ?_
          refine kw_cv (pc := 78) (As := [.int r6, .int r3]) (As0 := (fun G => [.ref (cp_b G + 6), .int r6, .int r3])) d_V_compare_78 (C_VhaveSameHead) rfl k_V_haveSameHead ml_V_85 (Or.inl ⟨by decide, rfl⟩) (by omega) (Nat.le_of_ble_eq_true rfl) ?_
          by_cases hc : ((hsh T4 r6 r3) : Int32) = 0
          · replace w := w.2 hc
            refine kv_p (fun _ _ _ _ _ _ v => vv_if_ne (pc := 81) (tgt := 86) d_V_compare_81 rfl (fun hn => absurd hc hn) (fun _ => v)) ?_
            refine kv_p (fun _ _ _ _ _ _ v => vv_iconst (pc := 84) (v := 0) d_V_compare_84 rfl v) ?_
            obtain ⟨rfl, rfl⟩ := w
            exact kv_e (fun _ _ => vv_iret (pc := 85) d_V_compare_85 rfl)
          · replace w := w.1 hc
            refine kv_p (fun _ _ _ _ _ _ v => vv_if_ne (pc := 81) (tgt := 86) d_V_compare_81 rfl (fun _ => v) (fun hn => absurd hn hc)) ?_
            refine kv_p (fun _ _ _ _ _ _ v => vv_aload_n (pc := 86) d_V_compare_86 rfl v) ?_
            refine kv_p (fun _ _ _ _ _ _ v => vv_iload (pc := 87) d_V_compare_87 rfl v) ?_
            refine kv_p (fun _ _ _ _ _ _ v => vv_iload (pc := 89) d_V_compare_89 rfl v) ?_
            obtain ⟨T7, c8, w⟩ := w
            refine kw_cv (pc := 91) (As := [.int r6, .int r3]) d_V_compare_91 c8 rfl k_V_pushArgumentPairs ml_V_88 (Or.inl ⟨by decide, rfl⟩) (by omega) (Nat.le_of_ble_eq_true rfl) ?_
            refine kv_p (fun _ _ _ _ _ _ v => vv_iinc (pc := 94) (v := (x3 + 1)) d_V_compare_94 rfl rfl (Nat.le_of_ble_eq_true rfl) v) ?_
            refine kv_p (fun _ _ _ _ _ _ v => vv_goto (pc := 97) (tgt := 8) d_V_compare_97 rfl v) ?_
            exact kw_sub [3, 4, 5, 0] rfl (w G H d n0 z0 hd)
        · replace w := w.2 hc
          refine kv_p (fun _ _ _ _ _ _ v => vv_if_eq (pc := 68) (tgt := 73) d_V_compare_68 rfl (fun hn => absurd hn hc) (fun _ => v)) ?_
          refine kv_p (fun _ _ _ _ _ _ v => vv_iconst (pc := 71) (v := (-1)) d_V_compare_71 rfl v) ?_
          obtain ⟨rfl, rfl⟩ := w
          exact kv_e (fun _ _ => vv_iret (pc := 72) d_V_compare_72 rfl)
      · replace w := w.1 hc
        refine kv_p (fun _ _ _ _ _ _ v => vv_if_ne (pc := 59) (tgt := 71) d_V_compare_59 rfl (fun _ => v) (fun hn => absurd hn hc)) ?_
        refine kv_p (fun _ _ _ _ _ _ v => vv_iconst (pc := 71) (v := (-1)) d_V_compare_71 rfl v) ?_
        obtain ⟨rfl, rfl⟩ := w
        exact kv_e (fun _ _ => vv_iret (pc := 72) d_V_compare_72 rfl)
def wp_V_write_0 (D : Nat) (o : cp_G → cp_O) (K' K : cp_K) (x1 : Int32) : Prop := rsz (kcut (kI K 6 4 0) 9 0) 9 < k_lim 9 ∧ JC (D + 8) m_V_write o K' 23 (fun G => [(0, .ref (cp_b G + 6)), (1, .int x1), (2, .int 0)]) (fun _ => []) (kpush (kcut (kI K 6 4 0) 9 0) 9 x1)
theorem b_V_write_0 {D : Nat} {o : cp_G → cp_O} {K' K : cp_K} {x1 : Int32} (w : wp_V_write_0 D o K' K x1) : JC (D + 8) m_V_write o K' 0 (fun G => [(0, .ref (cp_b G + 6)), (1, .int x1)]) (fun _ => []) K := by
  unfold wp_V_write_0 at w
  intro G H d n0 z0 hd
  show kV G H m_V_write d n0 z0 (o G) K' 0 [(0, .ref (cp_b G + 6)), (1, .int x1)] [] K
  refine kv_p (fun _ _ _ _ _ _ v => vv_aload_n (pc := 0) d_V_write_0 rfl v) ?_
  refine kv_p (fun _ _ _ _ _ _ v => vv_iconst (pc := 1) (v := 0) d_V_write_1 rfl v) ?_
  refine kw_pi (pc := 2) d_V_write_2 fl_V_30 (Or.inl ⟨by decide, rfl⟩) rfl rfl rfl rfl rfl ?_
  refine kv_p (fun _ _ _ _ _ _ v => vv_aload_n (pc := 5) d_V_write_5 rfl v) ?_
  refine kw_gf (pc := 6) 9 d_V_write_6 fl_V_20 (Or.inl ⟨by decide, rfl⟩) rfl (by decide) ?_
  refine kv_p (fun _ _ _ _ _ _ v => vv_iconst (pc := 9) (v := 0) d_V_write_9 rfl v) ?_
  refine kw_cr (pc := 10) (As := [.int 0]) (As0 := (fun G => [.ref (cp_b G + 9), .int 0])) d_V_write_10 (K_cut (by decide)) rfl k_R_cut ml_V_34 (by decide) (by omega) (Nat.le_of_ble_eq_true rfl) ?_
  refine kv_p (fun _ _ _ _ _ _ v => vv_aload_n (pc := 13) d_V_write_13 rfl v) ?_
  refine kw_gf (pc := 14) 9 d_V_write_14 fl_V_20 (Or.inl ⟨by decide, rfl⟩) rfl (by decide) ?_
  refine kv_p (fun _ _ _ _ _ _ v => vv_iload_n (pc := 17) d_V_write_17 rfl v) ?_
  obtain ⟨b1, w⟩ := w
  refine kw_cr (pc := 18) (As := [.int x1]) (As0 := (fun G => [.ref (cp_b G + 9), .int x1])) d_V_write_18 (K_push (by decide) b1) rfl k_R_push ml_V_45 (by decide) (by omega) (Nat.le_of_ble_eq_true rfl) ?_
  refine kv_p (fun _ _ _ _ _ _ v => vv_iconst (pc := 21) (v := 0) d_V_write_21 rfl v) ?_
  refine kv_p (fun _ _ _ _ _ _ v => vv_istore_n (pc := 22) d_V_write_22 (Nat.le_of_ble_eq_true rfl) v) ?_
  exact kw_sub [1, 2, 0] rfl (w G H d n0 z0 hd)
theorem c_V_write {D : Nat} {o : cp_G → Option Value} {K' K : cp_K} {x1 : Int32} (w : wp_V_write_0 D (fun G => .inl (o G)) K' K x1) : KC (D + 8) m_V_write (fun G => [.ref (cp_b G + 6), .int x1]) K o K' := KC.of2 rfl (fun G => by exact ⟨Nat.le_of_ble_eq_true rfl, rfl⟩) (b_V_write_0 w)
def wp_V_write_23 (D : Nat) (o : cp_G → cp_O) (K' K : cp_K) (x1 : Int32) (x2 : Int32) : Prop := ((100 < (x2 : Int32) → (o = (fun _ => .inl (some (.int (K.2.1 6 4)))) ∧ K' = K)) ∧ (¬ 100 < (x2 : Int32) → ((((nI (rsz K 9)) : Int32) ≤ 0 → (o = (fun _ => .inl (some (.int (K.2.1 6 4)))) ∧ K' = K)) ∧ (¬ ((nI (rsz K 9)) : Int32) ≤ 0 → ((¬ ((rtop K 9) : Int32) = (-1) → ∃ r3 T1, KC (D + 7) m_V_lookThrough (fun G => [.ref (cp_b G + 6), .int (rtop K 9)]) (kpop K 9) (fun _ => some (.int r3)) T1 ∧ ∃ T4, KC (D + 7) m_V_writeHead (fun G => [.ref (cp_b G + 6), .int r3]) T1 (fun _ => none) T4 ∧ JC (D + 8) m_V_write o K' 70 (fun G => [(0, .ref (cp_b G + 6)), (1, .int x1), (2, .int x2), (3, .int (rtop K 9))]) (fun _ => []) T4) ∧ (((rtop K 9) : Int32) = (-1) → ¬ (kpop K 9).2.1 6 4 < 0 ∧ JC (D + 8) m_V_write o K' 70 (fun G => [(0, .ref (cp_b G + 6)), (1, .int x1), (2, .int x2), (3, .int (rtop K 9))]) (fun _ => []) (wput (kpop K 9) 41)))))))
theorem b_V_write_23 {D : Nat} {o : cp_G → cp_O} {K' K : cp_K} {x1 : Int32} {x2 : Int32} (w : wp_V_write_23 D o K' K x1 x2) : JC (D + 8) m_V_write o K' 23 (fun G => [(0, .ref (cp_b G + 6)), (1, .int x1), (2, .int x2)]) (fun _ => []) K := by
  unfold wp_V_write_23 at w
  intro G H d n0 z0 hd
  show kV G H m_V_write d n0 z0 (o G) K' 23 [(0, .ref (cp_b G + 6)), (1, .int x1), (2, .int x2)] [] K
  refine kv_p (fun _ _ _ _ _ _ v => vv_iload_n (pc := 23) d_V_write_23 rfl v) ?_
  refine kv_p (fun _ _ _ _ _ _ v => vv_bipush (pc := 24) (v := 100) d_V_write_24 rfl v) ?_
  by_cases hc : 100 < (x2 : Int32)
  · replace w := w.1 hc
    refine kv_p (fun _ _ _ _ _ _ v => vv_icmp_gt (pc := 26) (tgt := 76) d_V_write_26 rfl (fun _ => v) (fun hn => absurd hc hn)) ?_
    refine kv_p (fun _ _ _ _ _ _ v => vv_aload_n (pc := 76) d_V_write_76 rfl v) ?_
    refine kw_gi (pc := 77) d_V_write_77 fl_V_30 (Or.inl ⟨by decide, rfl⟩) rfl rfl ?_
    obtain ⟨rfl, rfl⟩ := w
    exact kv_e (fun _ _ => vv_iret (pc := 80) d_V_write_80 rfl)
  · replace w := w.2 hc
    refine kv_p (fun _ _ _ _ _ _ v => vv_icmp_gt (pc := 26) (tgt := 76) d_V_write_26 rfl (fun hn => absurd hn hc) (fun _ => v)) ?_
    refine kv_p (fun _ _ _ _ _ _ v => vv_aload_n (pc := 29) d_V_write_29 rfl v) ?_
    refine kw_gf (pc := 30) 9 d_V_write_30 fl_V_20 (Or.inl ⟨by decide, rfl⟩) rfl (by decide) ?_
    refine kw_cr (pc := 33) (As := []) (As0 := (fun G => [.ref (cp_b G + 9)])) d_V_write_33 (K_size (by decide)) rfl k_R_size ml_V_41 (by decide) (by omega) (Nat.le_of_ble_eq_true rfl) ?_
    by_cases hc : ((nI (rsz K 9)) : Int32) ≤ 0
    · replace w := w.1 hc
      refine kv_p (fun _ _ _ _ _ _ v => vv_if_le (pc := 36) (tgt := 76) d_V_write_36 rfl (fun _ => v) (fun hn => absurd hc hn)) ?_
      refine kv_p (fun _ _ _ _ _ _ v => vv_aload_n (pc := 76) d_V_write_76 rfl v) ?_
      refine kw_gi (pc := 77) d_V_write_77 fl_V_30 (Or.inl ⟨by decide, rfl⟩) rfl rfl ?_
      obtain ⟨rfl, rfl⟩ := w
      exact kv_e (fun _ _ => vv_iret (pc := 80) d_V_write_80 rfl)
    · replace w := w.2 hc
      refine kv_p (fun _ _ _ _ _ _ v => vv_if_le (pc := 36) (tgt := 76) d_V_write_36 rfl (fun hn => absurd hn hc) (fun _ => v)) ?_
      refine kv_p (fun _ _ _ _ _ _ v => vv_aload_n (pc := 39) d_V_write_39 rfl v) ?_
      refine kw_gf (pc := 40) 9 d_V_write_40 fl_V_20 (Or.inl ⟨by decide, rfl⟩) rfl (by decide) ?_
      refine kw_cr (pc := 43) (As := []) (As0 := (fun G => [.ref (cp_b G + 9)])) d_V_write_43 (K_pop (by decide)) rfl k_R_pop ml_V_62 (by decide) (by omega) (Nat.le_of_ble_eq_true rfl) ?_
      refine kv_p (fun _ _ _ _ _ _ v => vv_istore_n (pc := 46) d_V_write_46 (Nat.le_of_ble_eq_true rfl) v) ?_
      refine kv_p (fun _ _ _ _ _ _ v => vv_iload_n (pc := 47) d_V_write_47 rfl v) ?_
      refine kv_p (fun _ _ _ _ _ _ v => vv_iconst (pc := 48) (v := (-1)) d_V_write_48 rfl v) ?_
      by_cases hc : ((rtop K 9) : Int32) = (-1)
      · replace w := w.2 hc
        refine kv_p (fun _ _ _ _ _ _ v => vv_icmp_ne (pc := 49) (tgt := 61) d_V_write_49 rfl (fun hn => absurd hc hn) (fun _ => v)) ?_
        refine kv_p (fun _ _ _ _ _ _ v => vv_aload_n (pc := 52) d_V_write_52 rfl v) ?_
        refine kv_p (fun _ _ _ _ _ _ v => vv_bipush (pc := 53) (v := 41) d_V_write_53 rfl v) ?_
        obtain ⟨b6, w⟩ := w
        refine kw_cv (pc := 55) (As := [.int 41]) (As0 := (fun G => [.ref (cp_b G + 6), .int 41])) d_V_write_55 (C_Vput b6) rfl k_V_put ml_V_97 (Or.inl ⟨by decide, rfl⟩) (by omega) (Nat.le_of_ble_eq_true rfl) ?_
        refine kv_p (fun _ _ _ _ _ _ v => vv_goto (pc := 58) (tgt := 70) d_V_write_58 rfl v) ?_
        exact kw_sub [1, 2, 3, 0] rfl (w G H d n0 z0 hd)
      · replace w := w.1 hc
        refine kv_p (fun _ _ _ _ _ _ v => vv_icmp_ne (pc := 49) (tgt := 61) d_V_write_49 rfl (fun _ => v) (fun hn => absurd hn hc)) ?_
        refine kv_p (fun _ _ _ _ _ _ v => vv_aload_n (pc := 61) d_V_write_61 rfl v) ?_
        refine kv_p (fun _ _ _ _ _ _ v => vv_aload_n (pc := 62) d_V_write_62 rfl v) ?_
        refine kv_p (fun _ _ _ _ _ _ v => vv_iload_n (pc := 63) d_V_write_63 rfl v) ?_
        obtain ⟨r3, T1, c2, w⟩ := w
        refine kw_cv (pc := 64) (As := [.int (rtop K 9)]) d_V_write_64 c2 rfl k_V_lookThrough ml_V_65 (Or.inl ⟨by decide, rfl⟩) (by omega) (Nat.le_of_ble_eq_true rfl) ?_
        obtain ⟨T4, c5, w⟩ := w
        refine kw_cv (pc := 67) (As := [.int r3]) d_V_write_67 c5 rfl k_V_writeHead ml_V_101 (Or.inl ⟨by decide, rfl⟩) (by omega) (Nat.le_of_ble_eq_true rfl) ?_
        exact kw_sub [1, 2, 3, 0] rfl (w G H d n0 z0 hd)
def wp_V_write_70 (D : Nat) (o : cp_G → cp_O) (K' K : cp_K) (x1 : Int32) (x2 : Int32) (x3 : Int32) : Prop := JC (D + 8) m_V_write o K' 23 (fun G => [(0, .ref (cp_b G + 6)), (1, .int x1), (2, .int (x2 + 1))]) (fun _ => []) K
theorem b_V_write_70 {D : Nat} {o : cp_G → cp_O} {K' K : cp_K} {x1 : Int32} {x2 : Int32} {x3 : Int32} (w : wp_V_write_70 D o K' K x1 x2 x3) : JC (D + 8) m_V_write o K' 70 (fun G => [(0, .ref (cp_b G + 6)), (1, .int x1), (2, .int x2), (3, .int x3)]) (fun _ => []) K := by
  unfold wp_V_write_70 at w
  intro G H d n0 z0 hd
  show kV G H m_V_write d n0 z0 (o G) K' 70 [(0, .ref (cp_b G + 6)), (1, .int x1), (2, .int x2), (3, .int x3)] [] K
  refine kv_p (fun _ _ _ _ _ _ v => vv_iinc (pc := 70) (v := (x2 + 1)) d_V_write_70 rfl rfl (Nat.le_of_ble_eq_true rfl) v) ?_
  refine kv_p (fun _ _ _ _ _ _ v => vv_goto (pc := 73) (tgt := 23) d_V_write_73 rfl v) ?_
  exact kw_sub [1, 2, 0] rfl (w G H d n0 z0 hd)
def wp_V_writeHead_0 (D : Nat) (o : cp_G → cp_O) (K' K : cp_K) (x1 : Int32) : Prop := (((rget K 7 x1) = (1 : Int32) → ∃ T1, KC (D + 7) m_V_writeNumber (fun G => [.ref (cp_b G + 6), .int (rget K 7 (x1 + 1))]) K (fun _ => none) T1 ∧ (o = (fun _ => .inl none) ∧ K' = T1)) ∧ ((rget K 7 x1) = (2 : Int32) → ¬ K.2.1 6 4 < 0 ∧ (o = (fun _ => .inl none) ∧ K' = (wput K 35))) ∧ ((rget K 7 x1) = (3 : Int32) → ¬ K.2.1 6 4 < 0 ∧ (o = (fun _ => .inl none) ∧ K' = (wput K 42))) ∧ ((rget K 7 x1) = (4 : Int32) → ¬ K.2.1 6 4 < 0 ∧ (o = (fun _ => .inl none) ∧ K' = (wput K 95))) ∧ ((rget K 7 x1) = (5 : Int32) → ¬ K.2.1 6 4 < 0 ∧ (o = (fun _ => .inl none) ∧ K' = (wput K 95))) ∧ ((rget K 7 x1) = (6 : Int32) → ∃ T7, KC (D + 7) m_V_writeConstant (fun G => [.ref (cp_b G + 6), .int x1]) K (fun _ => none) T7 ∧ (o = (fun _ => .inl none) ∧ K' = T7)) ∧ ((∀ c ∈ ([1, 2, 3, 4, 5, 6] : List Int32), ¬ (rget K 7 x1) = c) → ¬ K.2.1 6 4 < 0 ∧ (o = (fun _ => .inl none) ∧ K' = (wput K 95))))
theorem b_V_writeHead_0 {D : Nat} {o : cp_G → cp_O} {K' K : cp_K} {x1 : Int32} (w : wp_V_writeHead_0 D o K' K x1) : JC (D + 8) m_V_writeHead o K' 0 (fun G => [(0, .ref (cp_b G + 6)), (1, .int x1)]) (fun _ => []) K := by
  unfold wp_V_writeHead_0 at w
  intro G H d n0 z0 hd
  show kV G H m_V_writeHead d n0 z0 (o G) K' 0 [(0, .ref (cp_b G + 6)), (1, .int x1)] [] K
  refine kv_p (fun _ _ _ _ _ _ v => vv_aload_n (pc := 0) d_V_writeHead_0 rfl v) ?_
  refine kv_p (fun _ _ _ _ _ _ v => vv_iload_n (pc := 1) d_V_writeHead_1 rfl v) ?_
  refine kw_cv (pc := 2) (As := [.int x1]) (As0 := (fun G => [.ref (cp_b G + 6), .int x1])) d_V_writeHead_2 (C_VsortOf) rfl k_V_sortOf ml_V_91 (Or.inl ⟨by decide, rfl⟩) (by omega) (Nat.le_of_ble_eq_true rfl) ?_
  by_cases e5_0 : (rget K 7 x1) = (1 : Int32)
  · replace w := w.1 e5_0
    refine kw_topi (y := 1) e5_0 ?_
    refine kv_p (fun _ _ _ _ _ _ v => vv_tableIn (pc := 5) (off := 39) (tgt := 44) d_V_writeHead_5 (by decide +kernel) (by decide +kernel) (by decide +kernel) rfl v) ?_
    refine kv_p (fun _ _ _ _ _ _ v => vv_aload_n (pc := 44) d_V_writeHead_44 rfl v) ?_
    refine kv_p (fun _ _ _ _ _ _ v => vv_aload_n (pc := 45) d_V_writeHead_45 rfl v) ?_
    refine kv_p (fun _ _ _ _ _ _ v => vv_iload_n (pc := 46) d_V_writeHead_46 rfl v) ?_
    refine kw_cv (pc := 47) (As := [.int x1]) (As0 := (fun G => [.ref (cp_b G + 6), .int x1])) d_V_writeHead_47 (C_VdatumOf) rfl k_V_datumOf ml_V_104 (Or.inl ⟨by decide, rfl⟩) (by omega) (Nat.le_of_ble_eq_true rfl) ?_
    obtain ⟨T1, c2, w⟩ := w
    refine kw_cv (pc := 50) (As := [.int (rget K 7 (x1 + 1))]) d_V_writeHead_50 c2 rfl k_V_writeNumber ml_V_107 (Or.inl ⟨by decide, rfl⟩) (by omega) (Nat.le_of_ble_eq_true rfl) ?_
    refine kv_p (fun _ _ _ _ _ _ v => vv_goto (pc := 53) (tgt := 88) d_V_writeHead_53 rfl v) ?_
    obtain ⟨rfl, rfl⟩ := w
    exact kv_e (fun _ _ => vv_vret (pc := 88) d_V_writeHead_88 rfl)
  by_cases e5_1 : (rget K 7 x1) = (2 : Int32)
  · replace w := w.2.1 e5_1
    refine kw_topi (y := 2) e5_1 ?_
    refine kv_p (fun _ _ _ _ _ _ v => vv_tableIn (pc := 5) (off := 59) (tgt := 64) d_V_writeHead_5 (by decide +kernel) (by decide +kernel) (by decide +kernel) rfl v) ?_
    refine kv_p (fun _ _ _ _ _ _ v => vv_aload_n (pc := 64) d_V_writeHead_64 rfl v) ?_
    refine kv_p (fun _ _ _ _ _ _ v => vv_bipush (pc := 65) (v := 35) d_V_writeHead_65 rfl v) ?_
    obtain ⟨b3, w⟩ := w
    refine kw_cv (pc := 67) (As := [.int 35]) (As0 := (fun G => [.ref (cp_b G + 6), .int 35])) d_V_writeHead_67 (C_Vput b3) rfl k_V_put ml_V_97 (Or.inl ⟨by decide, rfl⟩) (by omega) (Nat.le_of_ble_eq_true rfl) ?_
    refine kv_p (fun _ _ _ _ _ _ v => vv_goto (pc := 70) (tgt := 88) d_V_writeHead_70 rfl v) ?_
    obtain ⟨rfl, rfl⟩ := w
    exact kv_e (fun _ _ => vv_vret (pc := 88) d_V_writeHead_88 rfl)
  by_cases e5_2 : (rget K 7 x1) = (3 : Int32)
  · replace w := w.2.2.1 e5_2
    refine kw_topi (y := 3) e5_2 ?_
    refine kv_p (fun _ _ _ _ _ _ v => vv_tableIn (pc := 5) (off := 68) (tgt := 73) d_V_writeHead_5 (by decide +kernel) (by decide +kernel) (by decide +kernel) rfl v) ?_
    refine kv_p (fun _ _ _ _ _ _ v => vv_aload_n (pc := 73) d_V_writeHead_73 rfl v) ?_
    refine kv_p (fun _ _ _ _ _ _ v => vv_bipush (pc := 74) (v := 42) d_V_writeHead_74 rfl v) ?_
    obtain ⟨b4, w⟩ := w
    refine kw_cv (pc := 76) (As := [.int 42]) (As0 := (fun G => [.ref (cp_b G + 6), .int 42])) d_V_writeHead_76 (C_Vput b4) rfl k_V_put ml_V_97 (Or.inl ⟨by decide, rfl⟩) (by omega) (Nat.le_of_ble_eq_true rfl) ?_
    refine kv_p (fun _ _ _ _ _ _ v => vv_goto (pc := 79) (tgt := 88) d_V_writeHead_79 rfl v) ?_
    obtain ⟨rfl, rfl⟩ := w
    exact kv_e (fun _ _ => vv_vret (pc := 88) d_V_writeHead_88 rfl)
  by_cases e5_3 : (rget K 7 x1) = (4 : Int32)
  · replace w := w.2.2.2.1 e5_3
    refine kw_topi (y := 4) e5_3 ?_
    refine kv_p (fun _ _ _ _ _ _ v => vv_tableIn (pc := 5) (off := 77) (tgt := 82) d_V_writeHead_5 (by decide +kernel) (by decide +kernel) (by decide +kernel) rfl v) ?_
    refine kv_p (fun _ _ _ _ _ _ v => vv_aload_n (pc := 82) d_V_writeHead_82 rfl v) ?_
    refine kv_p (fun _ _ _ _ _ _ v => vv_bipush (pc := 83) (v := 95) d_V_writeHead_83 rfl v) ?_
    obtain ⟨b5, w⟩ := w
    refine kw_cv (pc := 85) (As := [.int 95]) (As0 := (fun G => [.ref (cp_b G + 6), .int 95])) d_V_writeHead_85 (C_Vput b5) rfl k_V_put ml_V_97 (Or.inl ⟨by decide, rfl⟩) (by omega) (Nat.le_of_ble_eq_true rfl) ?_
    obtain ⟨rfl, rfl⟩ := w
    exact kv_e (fun _ _ => vv_vret (pc := 88) d_V_writeHead_88 rfl)
  by_cases e5_4 : (rget K 7 x1) = (5 : Int32)
  · replace w := w.2.2.2.2.1 e5_4
    refine kw_topi (y := 5) e5_4 ?_
    refine kv_p (fun _ _ _ _ _ _ v => vv_tableIn (pc := 5) (off := 77) (tgt := 82) d_V_writeHead_5 (by decide +kernel) (by decide +kernel) (by decide +kernel) rfl v) ?_
    refine kv_p (fun _ _ _ _ _ _ v => vv_aload_n (pc := 82) d_V_writeHead_82 rfl v) ?_
    refine kv_p (fun _ _ _ _ _ _ v => vv_bipush (pc := 83) (v := 95) d_V_writeHead_83 rfl v) ?_
    obtain ⟨b6, w⟩ := w
    refine kw_cv (pc := 85) (As := [.int 95]) (As0 := (fun G => [.ref (cp_b G + 6), .int 95])) d_V_writeHead_85 (C_Vput b6) rfl k_V_put ml_V_97 (Or.inl ⟨by decide, rfl⟩) (by omega) (Nat.le_of_ble_eq_true rfl) ?_
    obtain ⟨rfl, rfl⟩ := w
    exact kv_e (fun _ _ => vv_vret (pc := 88) d_V_writeHead_88 rfl)
  by_cases e5_5 : (rget K 7 x1) = (6 : Int32)
  · replace w := w.2.2.2.2.2.1 e5_5
    refine kw_topi (y := 6) e5_5 ?_
    refine kv_p (fun _ _ _ _ _ _ v => vv_tableIn (pc := 5) (off := 51) (tgt := 56) d_V_writeHead_5 (by decide +kernel) (by decide +kernel) (by decide +kernel) rfl v) ?_
    refine kv_p (fun _ _ _ _ _ _ v => vv_aload_n (pc := 56) d_V_writeHead_56 rfl v) ?_
    refine kv_p (fun _ _ _ _ _ _ v => vv_iload_n (pc := 57) d_V_writeHead_57 rfl v) ?_
    obtain ⟨T7, c8, w⟩ := w
    refine kw_cv (pc := 58) (As := [.int x1]) d_V_writeHead_58 c8 rfl k_V_writeConstant ml_V_110 (Or.inl ⟨by decide, rfl⟩) (by omega) (Nat.le_of_ble_eq_true rfl) ?_
    refine kv_p (fun _ _ _ _ _ _ v => vv_goto (pc := 61) (tgt := 88) d_V_writeHead_61 rfl v) ?_
    obtain ⟨rfl, rfl⟩ := w
    exact kv_e (fun _ _ => vv_vret (pc := 88) d_V_writeHead_88 rfl)
  have hx : ∀ c ∈ ([1, 2, 3, 4, 5, 6] : List Int32), ¬ (rget K 7 x1) = c := by
    intro c hc
    simp only [List.mem_cons, List.not_mem_nil, or_false] at hc
    rcases hc with rfl | rfl | rfl | rfl | rfl | rfl
    · exact e5_0
    · exact e5_1
    · exact e5_2
    · exact e5_3
    · exact e5_4
    · exact e5_5
  replace w := w.2.2.2.2.2.2 hx
  refine kv_p (fun _ _ _ _ _ _ v => vv_tableOut (pc := 5) (tgt := 82) d_V_writeHead_5 (cp_swout 1 6 ([1, 2, 3, 4, 5, 6] : List Int32) hx (by decide +kernel)) rfl v) ?_
  refine kv_p (fun _ _ _ _ _ _ v => vv_aload_n (pc := 82) d_V_writeHead_82 rfl v) ?_
  refine kv_p (fun _ _ _ _ _ _ v => vv_bipush (pc := 83) (v := 95) d_V_writeHead_83 rfl v) ?_
  obtain ⟨b9, w⟩ := w
  refine kw_cv (pc := 85) (As := [.int 95]) (As0 := (fun G => [.ref (cp_b G + 6), .int 95])) d_V_writeHead_85 (C_Vput b9) rfl k_V_put ml_V_97 (Or.inl ⟨by decide, rfl⟩) (by omega) (Nat.le_of_ble_eq_true rfl) ?_
  obtain ⟨rfl, rfl⟩ := w
  exact kv_e (fun _ _ => vv_vret (pc := 88) d_V_writeHead_88 rfl)
theorem c_V_writeHead {D : Nat} {o : cp_G → Option Value} {K' K : cp_K} {x1 : Int32} (w : wp_V_writeHead_0 D (fun G => .inl (o G)) K' K x1) : KC (D + 8) m_V_writeHead (fun G => [.ref (cp_b G + 6), .int x1]) K o K' := KC.of2 rfl (fun G => by exact ⟨Nat.le_of_ble_eq_true rfl, rfl⟩) (b_V_writeHead_0 w)
def wp_V_writeConstant_0 (D : Nat) (o : cp_G → cp_O) (K' K : cp_K) (x1 : Int32) : Prop := ¬ K.2.1 6 4 < 0 ∧ ((¬ ((rget (wput K (Int32.toUInt32 (rget K 7 (x1 + 1)) % 65536).toInt32) 7 (x1 + 2)) : Int32) = 0 → ¬ (wput K (Int32.toUInt32 (rget K 7 (x1 + 1)) % 65536).toInt32).2.1 6 4 < 0 ∧ rsz (wput (wput K (Int32.toUInt32 (rget K 7 (x1 + 1)) % 65536).toInt32) 40) 9 < k_lim 9 ∧ JC (D + 8) m_V_writeConstant o K' 41 (fun G => [(0, .ref (cp_b G + 6)), (1, .int x1), (2, .int ((rget (kpush (wput (wput K (Int32.toUInt32 (rget K 7 (x1 + 1)) % 65536).toInt32) 40) 9 (-1)) 7 (x1 + 2)) - 1))]) (fun _ => []) (kpush (wput (wput K (Int32.toUInt32 (rget K 7 (x1 + 1)) % 65536).toInt32) 40) 9 (-1))) ∧ (((rget (wput K (Int32.toUInt32 (rget K 7 (x1 + 1)) % 65536).toInt32) 7 (x1 + 2)) : Int32) = 0 → (o = (fun _ => .inl none) ∧ K' = (wput K (Int32.toUInt32 (rget K 7 (x1 + 1)) % 65536).toInt32))))
theorem b_V_writeConstant_0 {D : Nat} {o : cp_G → cp_O} {K' K : cp_K} {x1 : Int32} (w : wp_V_writeConstant_0 D o K' K x1) : JC (D + 8) m_V_writeConstant o K' 0 (fun G => [(0, .ref (cp_b G + 6)), (1, .int x1)]) (fun _ => []) K := by
  unfold wp_V_writeConstant_0 at w
  intro G H d n0 z0 hd
  show kV G H m_V_writeConstant d n0 z0 (o G) K' 0 [(0, .ref (cp_b G + 6)), (1, .int x1)] [] K
  refine kv_p (fun _ _ _ _ _ _ v => vv_aload_n (pc := 0) d_V_writeConstant_0 rfl v) ?_
  refine kv_p (fun _ _ _ _ _ _ v => vv_aload_n (pc := 1) d_V_writeConstant_1 rfl v) ?_
  refine kv_p (fun _ _ _ _ _ _ v => vv_iload_n (pc := 2) d_V_writeConstant_2 rfl v) ?_
  refine kw_cv (pc := 3) (As := [.int x1]) (As0 := (fun G => [.ref (cp_b G + 6), .int x1])) d_V_writeConstant_3 (C_VdatumOf) rfl k_V_datumOf ml_V_104 (Or.inl ⟨by decide, rfl⟩) (by omega) (Nat.le_of_ble_eq_true rfl) ?_
  refine kv_p (fun _ _ _ _ _ _ v => vv_i2c (pc := 6) d_V_writeConstant_6 v) ?_
  obtain ⟨b1, w⟩ := w
  refine kw_cv (pc := 7) (As := [.int (Int32.toUInt32 (rget K 7 (x1 + 1)) % 65536).toInt32]) (As0 := (fun G => [.ref (cp_b G + 6), .int (Int32.toUInt32 (rget K 7 (x1 + 1)) % 65536).toInt32])) d_V_writeConstant_7 (C_Vput b1) rfl k_V_put ml_V_97 (Or.inl ⟨by decide, rfl⟩) (by omega) (Nat.le_of_ble_eq_true rfl) ?_
  refine kv_p (fun _ _ _ _ _ _ v => vv_aload_n (pc := 10) d_V_writeConstant_10 rfl v) ?_
  refine kv_p (fun _ _ _ _ _ _ v => vv_iload_n (pc := 11) d_V_writeConstant_11 rfl v) ?_
  refine kw_cv (pc := 12) (As := [.int x1]) (As0 := (fun G => [.ref (cp_b G + 6), .int x1])) d_V_writeConstant_12 (C_VcountOf) rfl k_V_countOf ml_V_68 (Or.inl ⟨by decide, rfl⟩) (by omega) (Nat.le_of_ble_eq_true rfl) ?_
  by_cases hc : ((rget (wput K (Int32.toUInt32 (rget K 7 (x1 + 1)) % 65536).toInt32) 7 (x1 + 2)) : Int32) = 0
  · replace w := w.2 hc
    refine kv_p (fun _ _ _ _ _ _ v => vv_if_ne (pc := 15) (tgt := 19) d_V_writeConstant_15 rfl (fun hn => absurd hc hn) (fun _ => v)) ?_
    obtain ⟨rfl, rfl⟩ := w
    exact kv_e (fun _ _ => vv_vret (pc := 18) d_V_writeConstant_18 rfl)
  · replace w := w.1 hc
    refine kv_p (fun _ _ _ _ _ _ v => vv_if_ne (pc := 15) (tgt := 19) d_V_writeConstant_15 rfl (fun _ => v) (fun hn => absurd hn hc)) ?_
    refine kv_p (fun _ _ _ _ _ _ v => vv_aload_n (pc := 19) d_V_writeConstant_19 rfl v) ?_
    refine kv_p (fun _ _ _ _ _ _ v => vv_bipush (pc := 20) (v := 40) d_V_writeConstant_20 rfl v) ?_
    obtain ⟨b2, w⟩ := w
    refine kw_cv (pc := 22) (As := [.int 40]) (As0 := (fun G => [.ref (cp_b G + 6), .int 40])) d_V_writeConstant_22 (C_Vput b2) rfl k_V_put ml_V_97 (Or.inl ⟨by decide, rfl⟩) (by omega) (Nat.le_of_ble_eq_true rfl) ?_
    refine kv_p (fun _ _ _ _ _ _ v => vv_aload_n (pc := 25) d_V_writeConstant_25 rfl v) ?_
    refine kw_gf (pc := 26) 9 d_V_writeConstant_26 fl_V_20 (Or.inl ⟨by decide, rfl⟩) rfl (by decide) ?_
    refine kv_p (fun _ _ _ _ _ _ v => vv_iconst (pc := 29) (v := (-1)) d_V_writeConstant_29 rfl v) ?_
    obtain ⟨b3, w⟩ := w
    refine kw_cr (pc := 30) (As := [.int (-1)]) (As0 := (fun G => [.ref (cp_b G + 9), .int (-1)])) d_V_writeConstant_30 (K_push (by decide) b3) rfl k_R_push ml_V_45 (by decide) (by omega) (Nat.le_of_ble_eq_true rfl) ?_
    refine kv_p (fun _ _ _ _ _ _ v => vv_aload_n (pc := 33) d_V_writeConstant_33 rfl v) ?_
    refine kv_p (fun _ _ _ _ _ _ v => vv_iload_n (pc := 34) d_V_writeConstant_34 rfl v) ?_
    refine kw_cv (pc := 35) (As := [.int x1]) (As0 := (fun G => [.ref (cp_b G + 6), .int x1])) d_V_writeConstant_35 (C_VcountOf) rfl k_V_countOf ml_V_68 (Or.inl ⟨by decide, rfl⟩) (by omega) (Nat.le_of_ble_eq_true rfl) ?_
    refine kv_p (fun _ _ _ _ _ _ v => vv_iconst (pc := 38) (v := 1) d_V_writeConstant_38 rfl v) ?_
    refine kv_p (fun _ _ _ _ _ _ v => vv_isub (pc := 39) d_V_writeConstant_39 v) ?_
    refine kv_p (fun _ _ _ _ _ _ v => vv_istore_n (pc := 40) d_V_writeConstant_40 (Nat.le_of_ble_eq_true rfl) v) ?_
    exact kw_sub [1, 2, 0] rfl (w G H d n0 z0 hd)
theorem c_V_writeConstant {D : Nat} {o : cp_G → Option Value} {K' K : cp_K} {x1 : Int32} (w : wp_V_writeConstant_0 D (fun G => .inl (o G)) K' K x1) : KC (D + 8) m_V_writeConstant (fun G => [.ref (cp_b G + 6), .int x1]) K o K' := KC.of2 rfl (fun G => by exact ⟨Nat.le_of_ble_eq_true rfl, rfl⟩) (b_V_writeConstant_0 w)
def wp_V_writeConstant_41 (D : Nat) (o : cp_G → cp_O) (K' K : cp_K) (x1 : Int32) (x2 : Int32) : Prop := (((x2 : Int32) < 0 → (o = (fun _ => .inl none) ∧ K' = K)) ∧ (¬ (x2 : Int32) < 0 → rsz K 9 < k_lim 9 ∧ JC (D + 8) m_V_writeConstant o K' 41 (fun G => [(0, .ref (cp_b G + 6)), (1, .int x1), (2, .int (x2 + (-1)))]) (fun _ => []) (kpush K 9 (rget K 7 ((x1 + 3) + x2)))))
theorem b_V_writeConstant_41 {D : Nat} {o : cp_G → cp_O} {K' K : cp_K} {x1 : Int32} {x2 : Int32} (w : wp_V_writeConstant_41 D o K' K x1 x2) : JC (D + 8) m_V_writeConstant o K' 41 (fun G => [(0, .ref (cp_b G + 6)), (1, .int x1), (2, .int x2)]) (fun _ => []) K := by
  unfold wp_V_writeConstant_41 at w
  intro G H d n0 z0 hd
  show kV G H m_V_writeConstant d n0 z0 (o G) K' 41 [(0, .ref (cp_b G + 6)), (1, .int x1), (2, .int x2)] [] K
  refine kv_p (fun _ _ _ _ _ _ v => vv_iload_n (pc := 41) d_V_writeConstant_41 rfl v) ?_
  by_cases hc : (x2 : Int32) < 0
  · replace w := w.1 hc
    refine kv_p (fun _ _ _ _ _ _ v => vv_if_lt (pc := 42) (tgt := 64) d_V_writeConstant_42 rfl (fun _ => v) (fun hn => absurd hc hn)) ?_
    obtain ⟨rfl, rfl⟩ := w
    exact kv_e (fun _ _ => vv_vret (pc := 64) d_V_writeConstant_64 rfl)
  · replace w := w.2 hc
    refine kv_p (fun _ _ _ _ _ _ v => vv_if_lt (pc := 42) (tgt := 64) d_V_writeConstant_42 rfl (fun hn => absurd hn hc) (fun _ => v)) ?_
    refine kv_p (fun _ _ _ _ _ _ v => vv_aload_n (pc := 45) d_V_writeConstant_45 rfl v) ?_
    refine kw_gf (pc := 46) 9 d_V_writeConstant_46 fl_V_20 (Or.inl ⟨by decide, rfl⟩) rfl (by decide) ?_
    refine kv_p (fun _ _ _ _ _ _ v => vv_aload_n (pc := 49) d_V_writeConstant_49 rfl v) ?_
    refine kv_p (fun _ _ _ _ _ _ v => vv_iload_n (pc := 50) d_V_writeConstant_50 rfl v) ?_
    refine kv_p (fun _ _ _ _ _ _ v => vv_iload_n (pc := 51) d_V_writeConstant_51 rfl v) ?_
    refine kw_cv (pc := 52) (As := [.int x1, .int x2]) (As0 := (fun G => [.ref (cp_b G + 6), .int x1, .int x2])) d_V_writeConstant_52 (C_VargumentOf) rfl k_V_argumentOf ml_V_71 (Or.inl ⟨by decide, rfl⟩) (by omega) (Nat.le_of_ble_eq_true rfl) ?_
    obtain ⟨b1, w⟩ := w
    refine kw_cr (pc := 55) (As := [.int (rget K 7 ((x1 + 3) + x2))]) (As0 := (fun G => [.ref (cp_b G + 9), .int (rget K 7 ((x1 + 3) + x2))])) d_V_writeConstant_55 (K_push (by decide) b1) rfl k_R_push ml_V_45 (by decide) (by omega) (Nat.le_of_ble_eq_true rfl) ?_
    refine kv_p (fun _ _ _ _ _ _ v => vv_iinc (pc := 58) (v := (x2 + (-1))) d_V_writeConstant_58 rfl rfl (Nat.le_of_ble_eq_true rfl) v) ?_
    refine kv_p (fun _ _ _ _ _ _ v => vv_goto (pc := 61) (tgt := 41) d_V_writeConstant_61 rfl v) ?_
    exact kw_sub [1, 2, 0] rfl (w G H d n0 z0 hd)
def wp_V_writeNumber_0 (D : Nat) (o : cp_G → cp_O) (K' K : cp_K) (x1 : Int32) : Prop := ((0 ≤ ((lg_cmp (Int32.toInt64 x1) 0) : Int32) → JC (D + 8) m_V_writeNumber o K' 18 (fun G => [(0, .ref (cp_b G + 6)), (1, .int x1), (2, .long (Int32.toInt64 x1))]) (fun _ => []) K) ∧ (¬ 0 ≤ ((lg_cmp (Int32.toInt64 x1) 0) : Int32) → ¬ K.2.1 6 4 < 0 ∧ JC (D + 8) m_V_writeNumber o K' 18 (fun G => [(0, .ref (cp_b G + 6)), (1, .int x1), (2, .long (-(Int32.toInt64 x1)))]) (fun _ => []) (wput K 45)))
theorem b_V_writeNumber_0 {D : Nat} {o : cp_G → cp_O} {K' K : cp_K} {x1 : Int32} (w : wp_V_writeNumber_0 D o K' K x1) : JC (D + 8) m_V_writeNumber o K' 0 (fun G => [(0, .ref (cp_b G + 6)), (1, .int x1)]) (fun _ => []) K := by
  unfold wp_V_writeNumber_0 at w
  intro G H d n0 z0 hd
  show kV G H m_V_writeNumber d n0 z0 (o G) K' 0 [(0, .ref (cp_b G + 6)), (1, .int x1)] [] K
  refine kv_p (fun _ _ _ _ _ _ v => vv_iload_n (pc := 0) d_V_writeNumber_0 rfl v) ?_
  refine kv_p (fun _ _ _ _ _ _ v => vv_i2l (pc := 1) d_V_writeNumber_1 v) ?_
  refine kv_p (fun _ _ _ _ _ _ v => vv_lstore_n (pc := 2) d_V_writeNumber_2 (Nat.le_of_ble_eq_true rfl) v) ?_
  refine kv_p (fun _ _ _ _ _ _ v => vv_lload_n (pc := 3) d_V_writeNumber_3 rfl v) ?_
  refine kv_p (fun _ _ _ _ _ _ v => vv_lconst (pc := 4) (v := 0) d_V_writeNumber_4 rfl v) ?_
  refine kv_p (fun _ _ _ _ _ _ v => vv_lcmp (pc := 5) d_V_writeNumber_5 v) ?_
  by_cases hc : 0 ≤ ((lg_cmp (Int32.toInt64 x1) 0) : Int32)
  · replace w := w.1 hc
    refine kv_p (fun _ _ _ _ _ _ v => vv_if_ge (pc := 6) (tgt := 18) d_V_writeNumber_6 rfl (fun _ => v) (fun hn => absurd hc hn)) ?_
    exact kw_sub [1, 2, 0] rfl (w G H d n0 z0 hd)
  · replace w := w.2 hc
    refine kv_p (fun _ _ _ _ _ _ v => vv_if_ge (pc := 6) (tgt := 18) d_V_writeNumber_6 rfl (fun hn => absurd hn hc) (fun _ => v)) ?_
    refine kv_p (fun _ _ _ _ _ _ v => vv_aload_n (pc := 9) d_V_writeNumber_9 rfl v) ?_
    refine kv_p (fun _ _ _ _ _ _ v => vv_bipush (pc := 10) (v := 45) d_V_writeNumber_10 rfl v) ?_
    obtain ⟨b1, w⟩ := w
    refine kw_cv (pc := 12) (As := [.int 45]) (As0 := (fun G => [.ref (cp_b G + 6), .int 45])) d_V_writeNumber_12 (C_Vput b1) rfl k_V_put ml_V_97 (Or.inl ⟨by decide, rfl⟩) (by omega) (Nat.le_of_ble_eq_true rfl) ?_
    refine kv_p (fun _ _ _ _ _ _ v => vv_lload_n (pc := 15) d_V_writeNumber_15 rfl v) ?_
    refine kv_p (fun _ _ _ _ _ _ v => vv_lneg (pc := 16) d_V_writeNumber_16 v) ?_
    refine kv_p (fun _ _ _ _ _ _ v => vv_lstore_n (pc := 17) d_V_writeNumber_17 (Nat.le_of_ble_eq_true rfl) v) ?_
    exact kw_sub [1, 2, 0] rfl (w G H d n0 z0 hd)
theorem c_V_writeNumber {D : Nat} {o : cp_G → Option Value} {K' K : cp_K} {x1 : Int32} (w : wp_V_writeNumber_0 D (fun G => .inl (o G)) K' K x1) : KC (D + 8) m_V_writeNumber (fun G => [.ref (cp_b G + 6), .int x1]) K o K' := KC.of2 rfl (fun G => by exact ⟨Nat.le_of_ble_eq_true rfl, rfl⟩) (b_V_writeNumber_0 w)
def wp_V_writeNumber_18 (D : Nat) (o : cp_G → cp_O) (K' K : cp_K) (x1 : Int32) (x2 : Int64) : Prop := JC (D + 8) m_V_writeNumber o K' 26 (fun G => [(0, .ref (cp_b G + 6)), (1, .int x1), (2, .long x2), (4, .long 1), (6, .long 10)]) (fun _ => []) K
theorem b_V_writeNumber_18 {D : Nat} {o : cp_G → cp_O} {K' K : cp_K} {x1 : Int32} {x2 : Int64} (w : wp_V_writeNumber_18 D o K' K x1 x2) : JC (D + 8) m_V_writeNumber o K' 18 (fun G => [(0, .ref (cp_b G + 6)), (1, .int x1), (2, .long x2)]) (fun _ => []) K := by
  unfold wp_V_writeNumber_18 at w
  intro G H d n0 z0 hd
  show kV G H m_V_writeNumber d n0 z0 (o G) K' 18 [(0, .ref (cp_b G + 6)), (1, .int x1), (2, .long x2)] [] K
  refine kv_p (fun _ _ _ _ _ _ v => vv_lconst (pc := 18) (v := 1) d_V_writeNumber_18 rfl v) ?_
  refine kv_p (fun _ _ _ _ _ _ v => vv_lstore (pc := 19) d_V_writeNumber_19 (Nat.le_of_ble_eq_true rfl) v) ?_
  refine kv_p (fun _ _ _ _ _ _ v => vv_ldc2 (pc := 21) (v := 10) d_V_writeNumber_21 cj_V_113 v) ?_
  refine kv_p (fun _ _ _ _ _ _ v => vv_lstore (pc := 24) d_V_writeNumber_24 (Nat.le_of_ble_eq_true rfl) v) ?_
  exact kw_sub [2, 3, 4, 1, 0] rfl (w G H d n0 z0 hd)
def wp_V_writeNumber_26 (D : Nat) (o : cp_G → cp_O) (K' K : cp_K) (x1 : Int32) (x2 : Int64) (x4 : Int64) (x6 : Int64) : Prop := ((0 < ((lg_cmp x6 x2) : Int32) → JC (D + 8) m_V_writeNumber o K' 48 (fun G => [(0, .ref (cp_b G + 6)), (1, .int x1), (2, .long x2), (4, .long x4), (6, .long x6)]) (fun _ => []) K) ∧ (¬ 0 < ((lg_cmp x6 x2) : Int32) → JC (D + 8) m_V_writeNumber o K' 26 (fun G => [(0, .ref (cp_b G + 6)), (1, .int x1), (2, .long x2), (4, .long x6), (6, .long (x6 * 10))]) (fun _ => []) K))
theorem b_V_writeNumber_26 {D : Nat} {o : cp_G → cp_O} {K' K : cp_K} {x1 : Int32} {x2 : Int64} {x4 : Int64} {x6 : Int64} (w : wp_V_writeNumber_26 D o K' K x1 x2 x4 x6) : JC (D + 8) m_V_writeNumber o K' 26 (fun G => [(0, .ref (cp_b G + 6)), (1, .int x1), (2, .long x2), (4, .long x4), (6, .long x6)]) (fun _ => []) K := by
  unfold wp_V_writeNumber_26 at w
  intro G H d n0 z0 hd
  show kV G H m_V_writeNumber d n0 z0 (o G) K' 26 [(0, .ref (cp_b G + 6)), (1, .int x1), (2, .long x2), (4, .long x4), (6, .long x6)] [] K
  refine kv_p (fun _ _ _ _ _ _ v => vv_lload (pc := 26) d_V_writeNumber_26 rfl v) ?_
  refine kv_p (fun _ _ _ _ _ _ v => vv_lload_n (pc := 28) d_V_writeNumber_28 rfl v) ?_
  refine kv_p (fun _ _ _ _ _ _ v => vv_lcmp (pc := 29) d_V_writeNumber_29 v) ?_
  by_cases hc : 0 < ((lg_cmp x6 x2) : Int32)
  · replace w := w.1 hc
    refine kv_p (fun _ _ _ _ _ _ v => vv_if_gt (pc := 30) (tgt := 48) d_V_writeNumber_30 rfl (fun _ => v) (fun hn => absurd hc hn)) ?_
    exact kw_sub [0, 1, 2, 3, 4] rfl (w G H d n0 z0 hd)
  · replace w := w.2 hc
    refine kv_p (fun _ _ _ _ _ _ v => vv_if_gt (pc := 30) (tgt := 48) d_V_writeNumber_30 rfl (fun hn => absurd hn hc) (fun _ => v)) ?_
    refine kv_p (fun _ _ _ _ _ _ v => vv_lload (pc := 33) d_V_writeNumber_33 rfl v) ?_
    refine kv_p (fun _ _ _ _ _ _ v => vv_lstore (pc := 35) d_V_writeNumber_35 (Nat.le_of_ble_eq_true rfl) v) ?_
    refine kv_p (fun _ _ _ _ _ _ v => vv_lload (pc := 37) d_V_writeNumber_37 rfl v) ?_
    refine kv_p (fun _ _ _ _ _ _ v => vv_ldc2 (pc := 39) (v := 10) d_V_writeNumber_39 cj_V_113 v) ?_
    refine kv_p (fun _ _ _ _ _ _ v => vv_lmul (pc := 42) d_V_writeNumber_42 v) ?_
    refine kv_p (fun _ _ _ _ _ _ v => vv_lstore (pc := 43) d_V_writeNumber_43 (Nat.le_of_ble_eq_true rfl) v) ?_
    refine kv_p (fun _ _ _ _ _ _ v => vv_goto (pc := 45) (tgt := 26) d_V_writeNumber_45 rfl v) ?_
    exact kw_sub [2, 3, 4, 1, 0] rfl (w G H d n0 z0 hd)
def wp_V_writeNumber_48 (D : Nat) (o : cp_G → cp_O) (K' K : cp_K) (x1 : Int32) (x2 : Int64) (x4 : Int64) (x6 : Int64) : Prop := ((((lg_cmp x4 0) : Int32) ≤ 0 → (o = (fun _ => .inl none) ∧ K' = K)) ∧ (¬ ((lg_cmp x4 0) : Int32) ≤ 0 → ¬ x4 = (0 : Int64) ∧ ¬ K.2.1 6 4 < 0 ∧ JC (D + 8) m_V_writeNumber o K' 48 (fun G => [(0, .ref (cp_b G + 6)), (1, .int x1), (2, .long x2), (4, .long (x4 / 10)), (6, .long x6)]) (fun _ => []) (wput K (Int32.toUInt32 (Int64.toInt32 (48 + ((x2 / x4) - (x2 / x4) / 10 * 10))) % 65536).toInt32)))
theorem b_V_writeNumber_48 {D : Nat} {o : cp_G → cp_O} {K' K : cp_K} {x1 : Int32} {x2 : Int64} {x4 : Int64} {x6 : Int64} (w : wp_V_writeNumber_48 D o K' K x1 x2 x4 x6) : JC (D + 8) m_V_writeNumber o K' 48 (fun G => [(0, .ref (cp_b G + 6)), (1, .int x1), (2, .long x2), (4, .long x4), (6, .long x6)]) (fun _ => []) K := by
  unfold wp_V_writeNumber_48 at w
  intro G H d n0 z0 hd
  show kV G H m_V_writeNumber d n0 z0 (o G) K' 48 [(0, .ref (cp_b G + 6)), (1, .int x1), (2, .long x2), (4, .long x4), (6, .long x6)] [] K
  refine kv_p (fun _ _ _ _ _ _ v => vv_lload (pc := 48) d_V_writeNumber_48 rfl v) ?_
  refine kv_p (fun _ _ _ _ _ _ v => vv_lconst (pc := 50) (v := 0) d_V_writeNumber_50 rfl v) ?_
  refine kv_p (fun _ _ _ _ _ _ v => vv_lcmp (pc := 51) d_V_writeNumber_51 v) ?_
  by_cases hc : ((lg_cmp x4 0) : Int32) ≤ 0
  · replace w := w.1 hc
    refine kv_p (fun _ _ _ _ _ _ v => vv_if_le (pc := 52) (tgt := 84) d_V_writeNumber_52 rfl (fun _ => v) (fun hn => absurd hc hn)) ?_
    obtain ⟨rfl, rfl⟩ := w
    exact kv_e (fun _ _ => vv_vret (pc := 84) d_V_writeNumber_84 rfl)
  · replace w := w.2 hc
    refine kv_p (fun _ _ _ _ _ _ v => vv_if_le (pc := 52) (tgt := 84) d_V_writeNumber_52 rfl (fun hn => absurd hn hc) (fun _ => v)) ?_
    refine kv_p (fun _ _ _ _ _ _ v => vv_aload_n (pc := 55) d_V_writeNumber_55 rfl v) ?_
    refine kv_p (fun _ _ _ _ _ _ v => vv_ldc2 (pc := 56) (v := 48) d_V_writeNumber_56 cj_V_115 v) ?_
    refine kv_p (fun _ _ _ _ _ _ v => vv_lload_n (pc := 59) d_V_writeNumber_59 rfl v) ?_
    refine kv_p (fun _ _ _ _ _ _ v => vv_lload (pc := 60) d_V_writeNumber_60 rfl v) ?_
    obtain ⟨b1, w⟩ := w
    refine kv_p (fun _ _ _ _ _ _ v => vv_ldiv (pc := 62) d_V_writeNumber_62 b1 v) ?_
    refine kv_p (fun _ _ _ _ _ _ v => vv_ldc2 (pc := 63) (v := 10) d_V_writeNumber_63 cj_V_113 v) ?_
    refine kv_p (fun _ _ _ _ _ _ v => vv_lrem (pc := 66) d_V_writeNumber_66 (by decide) v) ?_
    refine kv_p (fun _ _ _ _ _ _ v => vv_ladd (pc := 67) d_V_writeNumber_67 v) ?_
    refine kv_p (fun _ _ _ _ _ _ v => vv_l2i (pc := 68) d_V_writeNumber_68 v) ?_
    refine kv_p (fun _ _ _ _ _ _ v => vv_i2c (pc := 69) d_V_writeNumber_69 v) ?_
    obtain ⟨b2, w⟩ := w
    refine kw_cv (pc := 70) (As := [.int (Int32.toUInt32 (Int64.toInt32 (48 + ((x2 / x4) - (x2 / x4) / 10 * 10))) % 65536).toInt32]) (As0 := (fun G => [.ref (cp_b G + 6), .int (Int32.toUInt32 (Int64.toInt32 (48 + ((x2 / x4) - (x2 / x4) / 10 * 10))) % 65536).toInt32])) d_V_writeNumber_70 (C_Vput b2) rfl k_V_put ml_V_97 (Or.inl ⟨by decide, rfl⟩) (by omega) (Nat.le_of_ble_eq_true rfl) ?_
    refine kv_p (fun _ _ _ _ _ _ v => vv_lload (pc := 73) d_V_writeNumber_73 rfl v) ?_
    refine kv_p (fun _ _ _ _ _ _ v => vv_ldc2 (pc := 75) (v := 10) d_V_writeNumber_75 cj_V_113 v) ?_
    refine kv_p (fun _ _ _ _ _ _ v => vv_ldiv (pc := 78) d_V_writeNumber_78 (by decide) v) ?_
    refine kv_p (fun _ _ _ _ _ _ v => vv_lstore (pc := 79) d_V_writeNumber_79 (Nat.le_of_ble_eq_true rfl) v) ?_
    refine kv_p (fun _ _ _ _ _ _ v => vv_goto (pc := 81) (tgt := 48) d_V_writeNumber_81 rfl v) ?_
    exact kw_sub [1, 2, 3, 0, 4] rfl (w G H d n0 z0 hd)
def wp_V_keep_0 (D : Nat) (o : cp_G → cp_O) (K' K : cp_K) (x1 : Int32) (x2 : Int32) : Prop := ∃ r3 T1, KC (D + 7) m_V_lookThrough (fun G => [.ref (cp_b G + 6), .int x1]) K (fun _ => some (.int r3)) T1 ∧ (((x2 : Int32) ≤ 40 → JC (D + 8) m_V_keep o K' 46 (fun G => [(0, .ref (cp_b G + 6)), (1, .int x1), (2, .int x2), (3, .int r3), (4, va_rf (kr G T1.1.1)), (5, .int 0)]) (fun _ => []) (ninit (kN T1 9) T1.1.1 (rget (kN T1 9) 7 r3) (rget (kN T1 9) 7 (r3 + 1)) 0)) ∧ (¬ (x2 : Int32) ≤ 40 → (o = (fun G => .inl (some (va_rf (kr G T1.1.1)))) ∧ K' = (ninit (kN T1 9) T1.1.1 4 0 0))))
theorem b_V_keep_0 {D : Nat} {o : cp_G → cp_O} {K' K : cp_K} {x1 : Int32} {x2 : Int32} (w : wp_V_keep_0 D o K' K x1 x2) : JC (D + 8) m_V_keep o K' 0 (fun G => [(0, .ref (cp_b G + 6)), (1, .int x1), (2, .int x2)]) (fun _ => []) K := by
  unfold wp_V_keep_0 at w
  intro G H d n0 z0 hd
  show kV G H m_V_keep d n0 z0 (o G) K' 0 [(0, .ref (cp_b G + 6)), (1, .int x1), (2, .int x2)] [] K
  refine kv_p (fun _ _ _ _ _ _ v => vv_aload_n (pc := 0) d_V_keep_0 rfl v) ?_
  refine kv_p (fun _ _ _ _ _ _ v => vv_iload_n (pc := 1) d_V_keep_1 rfl v) ?_
  obtain ⟨r3, T1, c2, w⟩ := w
  refine kw_cv (pc := 2) (As := [.int x1]) d_V_keep_2 c2 rfl k_V_lookThrough ml_V_65 (Or.inl ⟨by decide, rfl⟩) (by omega) (Nat.le_of_ble_eq_true rfl) ?_
  refine kv_p (fun _ _ _ _ _ _ v => vv_istore_n (pc := 5) d_V_keep_5 (Nat.le_of_ble_eq_true rfl) v) ?_
  refine kv_p (fun _ _ _ _ _ _ v => vv_iload_n (pc := 6) d_V_keep_6 rfl v) ?_
  refine kv_p (fun _ _ _ _ _ _ v => vv_bipush (pc := 7) (v := 40) d_V_keep_7 rfl v) ?_
  by_cases hc : (x2 : Int32) ≤ 40
  · replace w := w.1 hc
    refine kv_p (fun _ _ _ _ _ _ v => vv_icmp_le (pc := 9) (tgt := 23) d_V_keep_9 rfl (fun _ => v) (fun hn => absurd hc hn)) ?_
    refine kv_86 (fun h4 => ?_)
    refine kw_new (pc := 23) (N := 7) d_V_keep_23 cp_ok9 cl_V_117 rfl (by decide) kdef9 ?_
    refine kv_p (fun _ _ _ _ _ _ v => vv_dup (pc := 26) d_V_keep_26 (kr_cat _) v) ?_
    refine kv_p (fun _ _ _ _ _ _ v => vv_aload_n (pc := 27) d_V_keep_27 rfl v) ?_
    refine kv_p (fun _ _ _ _ _ _ v => vv_iload_n (pc := 28) d_V_keep_28 rfl v) ?_
    refine kw_cv (pc := 29) (As := [.int r3]) (As0 := (fun G => [.ref (cp_b G + 6), .int r3])) d_V_keep_29 (C_VsortOf) rfl k_V_sortOf ml_V_91 (Or.inl ⟨by decide, rfl⟩) (by omega) (by cases kr G T1.1.1 <;> exact Nat.le_of_ble_eq_true rfl) ?_
    refine kv_p (fun _ _ _ _ _ _ v => vv_aload_n (pc := 32) d_V_keep_32 rfl v) ?_
    refine kv_p (fun _ _ _ _ _ _ v => vv_iload_n (pc := 33) d_V_keep_33 rfl v) ?_
    refine kw_cv (pc := 34) (As := [.int r3]) (As0 := (fun G => [.ref (cp_b G + 6), .int r3])) d_V_keep_34 (C_VdatumOf) rfl k_V_datumOf ml_V_104 (Or.inl ⟨by decide, rfl⟩) (by omega) (by cases kr G T1.1.1 <;> exact Nat.le_of_ble_eq_true rfl) ?_
    refine kv_p (fun _ _ _ _ _ _ v => vv_iconst (pc := 37) (v := 0) d_V_keep_37 rfl v) ?_
    refine kw_ci (pc := 38) (As := [.int (rget (kN T1 9) 7 r3), .int (rget (kN T1 9) 7 (r3 + 1)), .int 0]) (As0 := (fun G => [va_rf (kr G T1.1.1), .int (rget (kN T1 9) 7 r3), .int (rget (kN T1 9) 7 (r3 + 1)), .int 0])) d_V_keep_38 (C_Ninit (nd_self h4)) rfl k_N_init ml_V_119 (nd_self h4) (by omega) (by cases kr G T1.1.1 <;> exact Nat.le_of_ble_eq_true rfl) ?_
    refine kv_p (fun _ _ _ _ _ _ v => vv_astore (pc := 41) d_V_keep_41 (cp_isr_rf (kr G T1.1.1)) (Nat.le_of_ble_eq_true rfl) v) ?_
    refine kv_p (fun _ _ _ _ _ _ v => vv_iconst (pc := 43) (v := 0) d_V_keep_43 rfl v) ?_
    refine kv_p (fun _ _ _ _ _ _ v => vv_istore (pc := 44) d_V_keep_44 (Nat.le_of_ble_eq_true rfl) v) ?_
    refine kw_lv (lv := [(5, .int 0), (4, va_rf (kr G T1.1.1)), (3, .int r3), (0, .ref (cp_b G + 6)), (1, .int x1), (2, .int x2)]) (by cases kr G T1.1.1 <;> rfl) ?_
    exact kw_sub [3, 4, 5, 2, 1, 0] rfl (w G H d n0 z0 hd)
  · replace w := w.2 hc
    refine kv_p (fun _ _ _ _ _ _ v => vv_icmp_le (pc := 9) (tgt := 23) d_V_keep_9 rfl (fun hn => absurd hn hc) (fun _ => v)) ?_
    refine kv_86 (fun h5 => ?_)
    refine kw_new (pc := 12) (N := 7) d_V_keep_12 cp_ok9 cl_V_117 rfl (by decide) kdef9 ?_
    refine kv_p (fun _ _ _ _ _ _ v => vv_dup (pc := 15) d_V_keep_15 (kr_cat _) v) ?_
    refine kv_p (fun _ _ _ _ _ _ v => vv_iconst (pc := 16) (v := 4) d_V_keep_16 rfl v) ?_
    refine kv_p (fun _ _ _ _ _ _ v => vv_iconst (pc := 17) (v := 0) d_V_keep_17 rfl v) ?_
    refine kv_p (fun _ _ _ _ _ _ v => vv_iconst (pc := 18) (v := 0) d_V_keep_18 rfl v) ?_
    refine kw_ci (pc := 19) (As := [.int 4, .int 0, .int 0]) (As0 := (fun G => [va_rf (kr G T1.1.1), .int 4, .int 0, .int 0])) d_V_keep_19 (C_Ninit (nd_self h5)) rfl k_N_init ml_V_119 (nd_self h5) (by omega) (by cases kr G T1.1.1 <;> exact Nat.le_of_ble_eq_true rfl) ?_
    obtain ⟨rfl, rfl⟩ := w
    exact kv_e (fun _ _ => vv_aret (pc := 22) d_V_keep_22 rfl (Or.inl ⟨_, rfl⟩) (cp_isr_rf _))
theorem c_V_keep {D : Nat} {o : cp_G → Option Value} {K' K : cp_K} {x1 : Int32} {x2 : Int32} (w : wp_V_keep_0 D (fun G => .inl (o G)) K' K x1 x2) : KC (D + 8) m_V_keep (fun G => [.ref (cp_b G + 6), .int x1, .int x2]) K o K' := KC.of2 rfl (fun G => by exact ⟨Nat.le_of_ble_eq_true rfl, rfl⟩) (b_V_keep_0 w)
def wp_V_keep_46 (D : Nat) (o : cp_G → cp_O) (K' K : cp_K) (x1 : Int32) (x2 : Int32) (x3 : Int32) (p4 : Nat) (x5 : Int32) : Prop := (((rget K 7 (x3 + 2)) ≤ (x5 : Int32) → (o = (fun G => .inl (some (va_rf (kr G p4)))) ∧ K' = K)) ∧ (¬ (rget K 7 (x3 + 2)) ≤ (x5 : Int32) → ∃ r3 T1, KC (D + 7) m_V_keep (fun G => [.ref (cp_b G + 6), .int (rget K 7 ((x3 + 3) + x5)), .int (x2 + 1)]) K (fun G => some (va_rf (kr G r3))) T1 ∧ nd T1 p4 9 ∧ (¬ T1.2.2.1 p4 5 = 0 → nd T1 (T1.2.2.1 p4 5) 9) ∧ JC (D + 8) m_V_keep o K' 46 (fun G => [(0, .ref (cp_b G + 6)), (1, .int x1), (2, .int x2), (3, .int x3), (4, va_rf (kr G p4)), (5, .int (x5 + 1))]) (fun _ => []) (nadd T1 p4 r3)))
theorem b_V_keep_46 {D : Nat} {o : cp_G → cp_O} {K' K : cp_K} {x1 : Int32} {x2 : Int32} {x3 : Int32} {p4 : Nat} {x5 : Int32} (w : wp_V_keep_46 D o K' K x1 x2 x3 p4 x5) : JC (D + 8) m_V_keep o K' 46 (fun G => [(0, .ref (cp_b G + 6)), (1, .int x1), (2, .int x2), (3, .int x3), (4, va_rf (kr G p4)), (5, .int x5)]) (fun _ => []) K := by
  unfold wp_V_keep_46 at w
  intro G H d n0 z0 hd
  show kV G H m_V_keep d n0 z0 (o G) K' 46 [(0, .ref (cp_b G + 6)), (1, .int x1), (2, .int x2), (3, .int x3), (4, va_rf (kr G p4)), (5, .int x5)] [] K
  refine kv_p (fun _ _ _ _ _ _ v => vv_iload (pc := 46) d_V_keep_46 rfl v) ?_
  refine kv_p (fun _ _ _ _ _ _ v => vv_aload_n (pc := 48) d_V_keep_48 rfl v) ?_
  refine kv_p (fun _ _ _ _ _ _ v => vv_iload_n (pc := 49) d_V_keep_49 rfl v) ?_
  refine kw_cv (pc := 50) (As := [.int x3]) (As0 := (fun G => [.ref (cp_b G + 6), .int x3])) d_V_keep_50 (C_VcountOf) rfl k_V_countOf ml_V_68 (Or.inl ⟨by decide, rfl⟩) (by omega) (Nat.le_of_ble_eq_true rfl) ?_
  by_cases hc : (rget K 7 (x3 + 2)) ≤ (x5 : Int32)
  · replace w := w.1 hc
    refine kv_p (fun _ _ _ _ _ _ v => vv_icmp_ge (pc := 53) (tgt := 81) d_V_keep_53 rfl (fun _ => v) (fun hn => absurd hc hn)) ?_
    refine kv_p (fun _ _ _ _ _ _ v => vv_aloadr (pc := 81) d_V_keep_81 (cp_isr_rf (kr G p4)) rfl v) ?_
    obtain ⟨rfl, rfl⟩ := w
    exact kv_e (fun _ _ => vv_aret (pc := 83) d_V_keep_83 rfl (Or.inl ⟨_, rfl⟩) (cp_isr_rf _))
  · replace w := w.2 hc
    refine kv_p (fun _ _ _ _ _ _ v => vv_icmp_ge (pc := 53) (tgt := 81) d_V_keep_53 rfl (fun hn => absurd hn hc) (fun _ => v)) ?_
    refine kv_p (fun _ _ _ _ _ _ v => vv_aloadr (pc := 56) d_V_keep_56 (cp_isr_rf (kr G p4)) rfl v) ?_
    refine kv_p (fun _ _ _ _ _ _ v => vv_aload_n (pc := 58) d_V_keep_58 rfl v) ?_
    refine kv_p (fun _ _ _ _ _ _ v => vv_aload_n (pc := 59) d_V_keep_59 rfl v) ?_
    refine kv_p (fun _ _ _ _ _ _ v => vv_iload_n (pc := 60) d_V_keep_60 rfl v) ?_
    refine kv_p (fun _ _ _ _ _ _ v => vv_iload (pc := 61) d_V_keep_61 rfl v) ?_
    refine kw_cv (pc := 63) (As := [.int x3, .int x5]) (As0 := (fun G => [.ref (cp_b G + 6), .int x3, .int x5])) d_V_keep_63 (C_VargumentOf) rfl k_V_argumentOf ml_V_71 (Or.inl ⟨by decide, rfl⟩) (by omega) (by cases kr G p4 <;> exact Nat.le_of_ble_eq_true rfl) ?_
    refine kv_p (fun _ _ _ _ _ _ v => vv_iload_n (pc := 66) d_V_keep_66 rfl v) ?_
    refine kv_p (fun _ _ _ _ _ _ v => vv_iconst (pc := 67) (v := 1) d_V_keep_67 rfl v) ?_
    refine kv_p (fun _ _ _ _ _ _ v => vv_iadd (pc := 68) d_V_keep_68 v) ?_
    obtain ⟨r3, T1, c2, w⟩ := w
    refine kw_cv (pc := 69) (As := [.int (rget K 7 ((x3 + 3) + x5)), .int (x2 + 1)]) d_V_keep_69 c2 rfl k_V_keep ml_V_122 (Or.inl ⟨by decide, rfl⟩) (by omega) (by cases kr G p4 <;> exact Nat.le_of_ble_eq_true rfl) ?_
    obtain ⟨b4, w⟩ := w
    obtain ⟨b5, w⟩ := w
    refine kw_cn (pc := 72) (As := [va_rf (kr G r3)]) (As0 := (fun G => [va_rf (kr G p4), va_rf (kr G r3)])) d_V_keep_72 (C_Nadd b4 b5) rfl k_N_add ml_V_126 b4 (by omega) (Nat.le_of_ble_eq_true rfl) ?_
    refine kv_p (fun _ _ _ _ _ _ v => vv_iinc (pc := 75) (v := (x5 + 1)) d_V_keep_75 rfl rfl (Nat.le_of_ble_eq_true rfl) v) ?_
    refine kw_lv (lv := [(5, .int (x5 + 1)), (0, .ref (cp_b G + 6)), (1, .int x1), (2, .int x2), (3, .int x3), (4, va_rf (kr G p4))]) (by cases kr G p4 <;> rfl) ?_
    refine kv_p (fun _ _ _ _ _ _ v => vv_goto (pc := 78) (tgt := 46) d_V_keep_78 rfl v) ?_
    exact kw_sub [1, 2, 3, 4, 5, 0] rfl (w G H d n0 z0 hd)
