/-! ===== the face (printed by cxc.py) ===== -/
def wp_P_type_0 (D : Nat) (o : cp_G → cp_O) (K' K : cp_K) (x1 : Int32) : Prop := (((x1 : Int32) < 32 → (o = (fun _ => .inl (some (.int 0))) ∧ K' = K)) ∧ (¬ (x1 : Int32) < 32 → ((126 < (x1 : Int32) → (o = (fun _ => .inl (some (.int 0))) ∧ K' = K)) ∧ (¬ 126 < (x1 : Int32) → ((((K.2.1 0 1) : Int32) < 80 → vp_in (K.2.1 0 1) 80 ∧ (o = (fun _ => .inl (some (.int 1))) ∧ K' = (kI (kI K 1 (Int32.toNatClampNeg (K.2.1 0 1)) (vp_nar .char x1)) 0 1 (((kI K 1 (Int32.toNatClampNeg (K.2.1 0 1)) (vp_nar .char x1)).2.1 0 1) + 1)))) ∧ (¬ ((K.2.1 0 1) : Int32) < 80 → (o = (fun _ => .inl (some (.int 0))) ∧ K' = K)))))))
theorem b_P_type_0 {D : Nat} {o : cp_G → cp_O} {K' K : cp_K} {x1 : Int32} (w : wp_P_type_0 D o K' K x1) : JC (D + 8) m_P_type o K' 0 (fun G => [(0, .ref (cp_b G + 0)), (1, .int x1)]) (fun _ => []) K := by
  unfold wp_P_type_0 at w
  intro G H d n0 z0 hd
  show kV G H m_P_type d n0 z0 (o G) K' 0 [(0, .ref (cp_b G + 0)), (1, .int x1)] [] K
  refine kv_p (fun _ _ _ _ _ _ v => vv_iload_n (pc := 0) d_P_type_0 rfl v) ?_
  refine kv_p (fun _ _ _ _ _ _ v => vv_bipush (pc := 1) (v := 32) d_P_type_1 rfl v) ?_
  by_cases hc : (x1 : Int32) < 32
  · replace w := w.1 hc
    refine kv_p (fun _ _ _ _ _ _ v => vv_icmp_lt (pc := 3) (tgt := 21) d_P_type_3 rfl (fun _ => v) (fun hn => absurd hc hn)) ?_
    refine kv_p (fun _ _ _ _ _ _ v => vv_iconst (pc := 21) (v := 0) d_P_type_21 rfl v) ?_
    obtain ⟨rfl, rfl⟩ := w
    exact kv_e (fun _ _ => vv_zret (pc := 22) d_P_type_22 rfl rfl)
  · replace w := w.2 hc
    refine kv_p (fun _ _ _ _ _ _ v => vv_icmp_lt (pc := 3) (tgt := 21) d_P_type_3 rfl (fun hn => absurd hn hc) (fun _ => v)) ?_
    refine kv_p (fun _ _ _ _ _ _ v => vv_iload_n (pc := 6) d_P_type_6 rfl v) ?_
    refine kv_p (fun _ _ _ _ _ _ v => vv_bipush (pc := 7) (v := 126) d_P_type_7 rfl v) ?_
    by_cases hc : 126 < (x1 : Int32)
    · replace w := w.1 hc
      refine kv_p (fun _ _ _ _ _ _ v => vv_icmp_gt (pc := 9) (tgt := 21) d_P_type_9 rfl (fun _ => v) (fun hn => absurd hc hn)) ?_
      refine kv_p (fun _ _ _ _ _ _ v => vv_iconst (pc := 21) (v := 0) d_P_type_21 rfl v) ?_
      obtain ⟨rfl, rfl⟩ := w
      exact kv_e (fun _ _ => vv_zret (pc := 22) d_P_type_22 rfl rfl)
    · replace w := w.2 hc
      refine kv_p (fun _ _ _ _ _ _ v => vv_icmp_gt (pc := 9) (tgt := 21) d_P_type_9 rfl (fun hn => absurd hn hc) (fun _ => v)) ?_
      refine kv_p (fun _ _ _ _ _ _ v => vv_aload_n (pc := 12) d_P_type_12 rfl v) ?_
      refine kw_gi (pc := 13) d_P_type_13 fl_P_13 (Or.inl ⟨by decide, rfl⟩) rfl rfl ?_
      refine kv_p (fun _ _ _ _ _ _ v => vv_bipush (pc := 16) (v := 80) d_P_type_16 rfl v) ?_
      by_cases hc : ((K.2.1 0 1) : Int32) < 80
      · replace w := w.1 hc
        refine kv_p (fun _ _ _ _ _ _ v => vv_icmp_lt (pc := 18) (tgt := 23) d_P_type_18 rfl (fun _ => v) (fun hn => absurd hc hn)) ?_
        refine kv_p (fun _ _ _ _ _ _ v => vv_aload_n (pc := 23) d_P_type_23 rfl v) ?_
        refine kw_gf (pc := 24) 1 d_P_type_24 fl_P_9 (Or.inl ⟨by decide, rfl⟩) rfl (by decide) ?_
        refine kv_p (fun _ _ _ _ _ _ v => vv_aload_n (pc := 27) d_P_type_27 rfl v) ?_
        refine kw_gi (pc := 28) d_P_type_28 fl_P_13 (Or.inl ⟨by decide, rfl⟩) rfl rfl ?_
        refine kv_p (fun _ _ _ _ _ _ v => vv_iload_n (pc := 31) d_P_type_31 rfl v) ?_
        obtain ⟨b1, w⟩ := w
        refine kw_cs (pc := 32) (len := 80) d_P_type_32 (by decide) b1 ?_
        refine kv_p (fun _ _ _ _ _ _ v => vv_aload_n (pc := 33) d_P_type_33 rfl v) ?_
        refine kv_p (fun _ _ _ _ _ _ v => vv_dup (pc := 34) d_P_type_34 rfl v) ?_
        refine kw_gi (pc := 35) d_P_type_35 fl_P_13 (Or.inl ⟨by decide, rfl⟩) rfl rfl ?_
        refine kv_p (fun _ _ _ _ _ _ v => vv_iconst (pc := 38) (v := 1) d_P_type_38 rfl v) ?_
        refine kv_p (fun _ _ _ _ _ _ v => vv_iadd (pc := 39) d_P_type_39 v) ?_
        refine kw_pi (pc := 40) d_P_type_40 fl_P_13 (Or.inl ⟨by decide, rfl⟩) rfl rfl rfl rfl rfl ?_
        refine kv_p (fun _ _ _ _ _ _ v => vv_iconst (pc := 43) (v := 1) d_P_type_43 rfl v) ?_
        obtain ⟨rfl, rfl⟩ := w
        exact kv_e (fun _ _ => vv_zret (pc := 44) d_P_type_44 rfl rfl)
      · replace w := w.2 hc
        refine kv_p (fun _ _ _ _ _ _ v => vv_icmp_lt (pc := 18) (tgt := 23) d_P_type_18 rfl (fun hn => absurd hn hc) (fun _ => v)) ?_
        refine kv_p (fun _ _ _ _ _ _ v => vv_iconst (pc := 21) (v := 0) d_P_type_21 rfl v) ?_
        obtain ⟨rfl, rfl⟩ := w
        exact kv_e (fun _ _ => vv_zret (pc := 22) d_P_type_22 rfl rfl)
theorem c_P_type {D : Nat} {o : cp_G → Option Value} {K' K : cp_K} {x1 : Int32} (w : wp_P_type_0 D (fun G => .inl (o G)) K' K x1) : KC (D + 8) m_P_type (fun G => [.ref (cp_b G + 0), .int x1]) K o K' := KC.of2 rfl (fun G => by exact ⟨Nat.le_of_ble_eq_true rfl, rfl⟩) (b_P_type_0 w)
def wp_P_wipe_0 (D : Nat) (o : cp_G → cp_O) (K' K : cp_K) : Prop := (o = (fun _ => .inl (some (.int (K.2.1 0 1)))) ∧ K' = (kI K 0 1 0))
theorem b_P_wipe_0 {D : Nat} {o : cp_G → cp_O} {K' K : cp_K} (w : wp_P_wipe_0 D o K' K) : JC (D + 8) m_P_wipe o K' 0 (fun G => [(0, .ref (cp_b G + 0))]) (fun _ => []) K := by
  unfold wp_P_wipe_0 at w
  intro G H d n0 z0 hd
  show kV G H m_P_wipe d n0 z0 (o G) K' 0 [(0, .ref (cp_b G + 0))] [] K
  refine kv_p (fun _ _ _ _ _ _ v => vv_aload_n (pc := 0) d_P_wipe_0 rfl v) ?_
  refine kw_gi (pc := 1) d_P_wipe_1 fl_P_13 (Or.inl ⟨by decide, rfl⟩) rfl rfl ?_
  refine kv_p (fun _ _ _ _ _ _ v => vv_istore_n (pc := 4) d_P_wipe_4 (Nat.le_of_ble_eq_true rfl) v) ?_
  refine kv_p (fun _ _ _ _ _ _ v => vv_aload_n (pc := 5) d_P_wipe_5 rfl v) ?_
  refine kv_p (fun _ _ _ _ _ _ v => vv_iconst (pc := 6) (v := 0) d_P_wipe_6 rfl v) ?_
  refine kw_pi (pc := 7) d_P_wipe_7 fl_P_13 (Or.inl ⟨by decide, rfl⟩) rfl rfl rfl rfl rfl ?_
  refine kv_p (fun _ _ _ _ _ _ v => vv_iload_n (pc := 10) d_P_wipe_10 rfl v) ?_
  obtain ⟨rfl, rfl⟩ := w
  exact kv_e (fun _ _ => vv_iret (pc := 11) d_P_wipe_11 rfl)
theorem c_P_wipe {D : Nat} {o : cp_G → Option Value} {K' K : cp_K} (w : wp_P_wipe_0 D (fun G => .inl (o G)) K' K) : KC (D + 8) m_P_wipe (fun G => [.ref (cp_b G + 0)]) K o K' := KC.of2 rfl (fun G => by exact ⟨Nat.le_of_ble_eq_true rfl, rfl⟩) (b_P_wipe_0 w)
def wp_P_declare_0 (D : Nat) (o : cp_G → cp_O) (K' K : cp_K) (x1 : Int32) : Prop := ((∃ T1, KC (D + 7) m_P_refuseUnlessFree (fun G => [.ref (cp_b G + 0), .int x1]) K (fun _ => none) T1 ∧ ∃ T3, KC (D + 7) m_P_openText (fun G => [.ref (cp_b G + 0)]) T1 (fun _ => none) T3 ∧ ∃ r7 T5, KC (D + 7) m_Q_readDeclaration (fun G => [.ref (cp_b G + 21)]) T3 (fun G => some (va_rf (kr G r7))) T5 ∧ ((¬ r7 = (0 : Nat) → ∃ r10 T8, KC (D + 7) m_T_wrongInDeclaration (fun G => [.ref (cp_b G + 24), va_rf (kr G r7)]) T5 (fun _ => some (.int r10)) T8 ∧ (((r10 : Int32) = (-1) → ∃ T12, KC (D + 7) m_E_init (fun G => [va_rf (kr G T8.1.1), .int x1, .int 0, va_rf (kr G r7)]) (kN T8 10) (fun _ => none) T12 ∧ ∃ r16 T14, KC (D + 7) m_P_enter (fun G => [.ref (cp_b G + 0), va_rf (kr G T8.1.1)]) T12 (fun _ => some (.int r16)) T14 ∧ (o = (fun _ => .inl (some (.int r16))) ∧ K' = T14)) ∧ (¬ (r10 : Int32) = (-1) → (o = (fun _ => .inl (some (.int ((-100) - r10)))) ∧ K' = T8)))) ∧ (r7 = (0 : Nat) → (o = (fun _ => .inl (some (.int (-1 - T5.2.1 21 2)))) ∧ K' = T5)))) ∨ (∃ u18 v19 T17, KT (D + 7) m_P_refuseUnlessFree (fun G => [.ref (cp_b G + 0), .int x1]) K u18 v19 T17 ∧ o = (fun _ => .inr (u18, v19)) ∧ K' = T17))
theorem b_P_declare_0 {D : Nat} {o : cp_G → cp_O} {K' K : cp_K} {x1 : Int32} (w : wp_P_declare_0 D o K' K x1) : JC (D + 8) m_P_declare o K' 0 (fun G => [(0, .ref (cp_b G + 0)), (1, .int x1)]) (fun _ => []) K := by
  unfold wp_P_declare_0 at w
  intro G H d n0 z0 hd
  show kV G H m_P_declare d n0 z0 (o G) K' 0 [(0, .ref (cp_b G + 0)), (1, .int x1)] [] K
  refine kv_p (fun _ _ _ _ _ _ v => vv_aload_n (pc := 0) d_P_declare_0 rfl v) ?_
  refine kv_p (fun _ _ _ _ _ _ v => vv_iload_n (pc := 1) d_P_declare_1 rfl v) ?_
  rcases w with ⟨T1, c2, w⟩ | ⟨u18, v19, T17, c2, rfl, rfl⟩
  · refine kw_cv (pc := 2) (As := [.int x1]) d_P_declare_2 c2 rfl k_P_refuseUnlessFree ml_P_86 (Or.inl ⟨by decide, rfl⟩) (by omega) (Nat.le_of_ble_eq_true rfl) ?_
    refine kv_p (fun _ _ _ _ _ _ v => vv_aload_n (pc := 5) d_P_declare_5 rfl v) ?_
    obtain ⟨T3, c4, w⟩ := w
    refine kw_cv (pc := 6) (As := []) d_P_declare_6 c4 rfl k_P_openText ml_P_90 (Or.inl ⟨by decide, rfl⟩) (by omega) (Nat.le_of_ble_eq_true rfl) ?_
    refine kv_p (fun _ _ _ _ _ _ v => vv_aload_n (pc := 9) d_P_declare_9 rfl v) ?_
    refine kw_gf (pc := 10) 21 d_P_declare_10 fl_P_47 (Or.inl ⟨by decide, rfl⟩) rfl (by decide) ?_
    obtain ⟨r7, T5, c6, w⟩ := w
    refine kw_cv (pc := 13) (As := []) d_P_declare_13 c6 rfl k_Q_readDeclaration ml_P_93 (Or.inl ⟨by decide, rfl⟩) (by omega) (Nat.le_of_ble_eq_true rfl) ?_
    refine kv_p (fun _ _ _ _ _ _ v => vv_astore_n (pc := 16) d_P_declare_16 (cp_isr_rf (kr G r7)) (Nat.le_of_ble_eq_true rfl) v) ?_
    refine kv_p (fun _ _ _ _ _ _ v => vv_aload_nr (pc := 17) d_P_declare_17 (cp_isr_rf (kr G r7)) rfl v) ?_
    refine kw_ifnonnull (pc := 18) (tgt := 26) d_P_declare_18 rfl (fun hc => ?_) (fun hc => ?_)
    · replace w := w.1 hc
      refine kv_p (fun _ _ _ _ _ _ v => vv_aload_n (pc := 26) d_P_declare_26 rfl v) ?_
      refine kw_gf (pc := 27) 24 d_P_declare_27 fl_P_65 (Or.inl ⟨by decide, rfl⟩) rfl (by decide) ?_
      refine kv_p (fun _ _ _ _ _ _ v => vv_aload_nr (pc := 30) d_P_declare_30 (cp_isr_rf (kr G r7)) rfl v) ?_
      obtain ⟨r10, T8, c9, w⟩ := w
      refine kw_cv (pc := 31) (As := [va_rf (kr G r7)]) d_P_declare_31 c9 rfl k_T_wrongInDeclaration ml_P_101 (Or.inl ⟨by decide, rfl⟩) (by omega) (Nat.le_of_ble_eq_true rfl) ?_
      refine kv_p (fun _ _ _ _ _ _ v => vv_istore_n (pc := 34) d_P_declare_34 (Nat.le_of_ble_eq_true rfl) v) ?_
      refine kw_lv (lv := [(3, .int r10), (2, va_rf (kr G r7)), (0, .ref (cp_b G + 0)), (1, .int x1)]) (by cases kr G r7 <;> rfl) ?_
      refine kv_p (fun _ _ _ _ _ _ v => vv_iload_n (pc := 35) d_P_declare_35 rfl v) ?_
      refine kv_p (fun _ _ _ _ _ _ v => vv_iconst (pc := 36) (v := (-1)) d_P_declare_36 rfl v) ?_
      by_cases hc : (r10 : Int32) = (-1)
      · replace w := w.1 hc
        refine kv_p (fun _ _ _ _ _ _ v => vv_icmp_eq (pc := 37) (tgt := 45) d_P_declare_37 rfl (fun _ => v) (fun hn => absurd hc hn)) ?_
        refine kv_p (fun _ _ _ _ _ _ v => vv_aload_n (pc := 45) d_P_declare_45 rfl v) ?_
        refine kv_86 (fun h11 => ?_)
        refine kw_new (pc := 46) (N := 5) d_P_declare_46 cp_ok10 cl_P_105 rfl (by decide) kdef10 ?_
        refine kv_p (fun _ _ _ _ _ _ v => vv_dup (pc := 49) d_P_declare_49 (kr_cat _) v) ?_
        refine kv_p (fun _ _ _ _ _ _ v => vv_iload_n (pc := 50) d_P_declare_50 rfl v) ?_
        refine kv_p (fun _ _ _ _ _ _ v => vv_iconst (pc := 51) (v := 0) d_P_declare_51 rfl v) ?_
        refine kv_p (fun _ _ _ _ _ _ v => vv_aload_nr (pc := 52) d_P_declare_52 (cp_isr_rf (kr G r7)) rfl v) ?_
        obtain ⟨T12, c13, w⟩ := w
        refine kw_ci (pc := 53) (As := [.int x1, .int 0, va_rf (kr G r7)]) d_P_declare_53 c13 rfl k_E_init ml_P_107 (nd_self h11) (by omega) (by cases kr G T8.1.1 <;> exact Nat.le_of_ble_eq_true rfl) ?_
        obtain ⟨r16, T14, c15, w⟩ := w
        refine kw_cv (pc := 56) (As := [va_rf (kr G T8.1.1)]) d_P_declare_56 c15 rfl k_P_enter ml_P_110 (Or.inl ⟨by decide, rfl⟩) (by omega) (Nat.le_of_ble_eq_true rfl) ?_
        obtain ⟨rfl, rfl⟩ := w
        exact kv_e (fun _ _ => vv_iret (pc := 59) d_P_declare_59 rfl)
      · replace w := w.2 hc
        refine kv_p (fun _ _ _ _ _ _ v => vv_icmp_eq (pc := 37) (tgt := 45) d_P_declare_37 rfl (fun hn => absurd hn hc) (fun _ => v)) ?_
        refine kv_p (fun _ _ _ _ _ _ v => vv_bipush (pc := 40) (v := (-100)) d_P_declare_40 rfl v) ?_
        refine kv_p (fun _ _ _ _ _ _ v => vv_iload_n (pc := 42) d_P_declare_42 rfl v) ?_
        refine kv_p (fun _ _ _ _ _ _ v => vv_isub (pc := 43) d_P_declare_43 v) ?_
        obtain ⟨rfl, rfl⟩ := w
        exact kv_e (fun _ _ => vv_iret (pc := 44) d_P_declare_44 rfl)
    · replace w := w.2 hc
      refine kv_p (fun _ _ _ _ _ _ v => vv_aload_n (pc := 21) d_P_declare_21 rfl v) ?_
      refine kw_cv (pc := 22) (As := []) (As0 := (fun G => [.ref (cp_b G + 0)])) d_P_declare_22 (C_Pfault) rfl k_P_fault ml_P_97 (Or.inl ⟨by decide, rfl⟩) (by omega) (Nat.le_of_ble_eq_true rfl) ?_
      obtain ⟨rfl, rfl⟩ := w
      exact kv_e (fun _ _ => vv_iret (pc := 25) d_P_declare_25 rfl)
  · exact kw_thv (pc := 2) (As := [.int x1]) d_P_declare_2 c2 rfl k_P_refuseUnlessFree ml_P_86 (Or.inl ⟨by decide, rfl⟩) (by omega) (Nat.le_of_ble_eq_true rfl) k_P_declare.1
theorem c_P_declare {D : Nat} {o : cp_G → Option Value} {K' K : cp_K} {x1 : Int32} (w : wp_P_declare_0 D (fun G => .inl (o G)) K' K x1) : KC (D + 8) m_P_declare (fun G => [.ref (cp_b G + 0), .int x1]) K o K' := KC.of2 rfl (fun G => by exact ⟨Nat.le_of_ble_eq_true rfl, rfl⟩) (b_P_declare_0 w)
theorem t_P_declare {D ci i : Nat} {K' K : cp_K} {x1 : Int32} (w : wp_P_declare_0 D (fun _ => .inr (ci, i)) K' K x1) : KT (D + 8) m_P_declare (fun G => [.ref (cp_b G + 0), .int x1]) K ci i K' := KT.of2 rfl (fun G => by exact ⟨Nat.le_of_ble_eq_true rfl, rfl⟩) (b_P_declare_0 w)
def wp_P_program_0 (D : Nat) (o : cp_G → cp_O) (K' K : cp_K) (x1 : Int32) : Prop := ((∃ T1, KC (D + 7) m_P_refuseUnlessFree (fun G => [.ref (cp_b G + 0), .int x1]) K (fun _ => none) T1 ∧ ∃ T3, KC (D + 7) m_P_openText (fun G => [.ref (cp_b G + 0)]) T1 (fun _ => none) T3 ∧ ∃ r7 T5, KC (D + 7) m_Q_readProgram (fun G => [.ref (cp_b G + 21)]) T3 (fun G => some (va_rf (kr G r7))) T5 ∧ ((¬ r7 = (0 : Nat) → ∃ T9, KC (D + 7) m_E_init (fun G => [va_rf (kr G T5.1.1), .int x1, .int 1, va_rf (kr G r7)]) (kN T5 10) (fun _ => none) T9 ∧ ∃ r13 T11, KC (D + 7) m_I_wrongInProgram (fun G => [.ref (cp_b G + 25), va_rf (kr G T5.1.1)]) T9 (fun _ => some (.int r13)) T11 ∧ (((r13 : Int32) = (-1) → ∃ r16 T14, KC (D + 7) m_P_enter (fun G => [.ref (cp_b G + 0), va_rf (kr G T5.1.1)]) T11 (fun _ => some (.int r16)) T14 ∧ (o = (fun _ => .inl (some (.int r16))) ∧ K' = T14)) ∧ (¬ (r13 : Int32) = (-1) → (o = (fun _ => .inl (some (.int ((-100) - r13)))) ∧ K' = T11)))) ∧ (r7 = (0 : Nat) → (o = (fun _ => .inl (some (.int (-1 - T5.2.1 21 2)))) ∧ K' = T5)))) ∨ (∃ u18 v19 T17, KT (D + 7) m_P_refuseUnlessFree (fun G => [.ref (cp_b G + 0), .int x1]) K u18 v19 T17 ∧ o = (fun _ => .inr (u18, v19)) ∧ K' = T17))
theorem b_P_program_0 {D : Nat} {o : cp_G → cp_O} {K' K : cp_K} {x1 : Int32} (w : wp_P_program_0 D o K' K x1) : JC (D + 8) m_P_program o K' 0 (fun G => [(0, .ref (cp_b G + 0)), (1, .int x1)]) (fun _ => []) K := by
  unfold wp_P_program_0 at w
  intro G H d n0 z0 hd
  show kV G H m_P_program d n0 z0 (o G) K' 0 [(0, .ref (cp_b G + 0)), (1, .int x1)] [] K
  refine kv_p (fun _ _ _ _ _ _ v => vv_aload_n (pc := 0) d_P_program_0 rfl v) ?_
  refine kv_p (fun _ _ _ _ _ _ v => vv_iload_n (pc := 1) d_P_program_1 rfl v) ?_
  rcases w with ⟨T1, c2, w⟩ | ⟨u18, v19, T17, c2, rfl, rfl⟩
  · refine kw_cv (pc := 2) (As := [.int x1]) d_P_program_2 c2 rfl k_P_refuseUnlessFree ml_P_86 (Or.inl ⟨by decide, rfl⟩) (by omega) (Nat.le_of_ble_eq_true rfl) ?_
    refine kv_p (fun _ _ _ _ _ _ v => vv_aload_n (pc := 5) d_P_program_5 rfl v) ?_
    obtain ⟨T3, c4, w⟩ := w
    refine kw_cv (pc := 6) (As := []) d_P_program_6 c4 rfl k_P_openText ml_P_90 (Or.inl ⟨by decide, rfl⟩) (by omega) (Nat.le_of_ble_eq_true rfl) ?_
    refine kv_p (fun _ _ _ _ _ _ v => vv_aload_n (pc := 9) d_P_program_9 rfl v) ?_
    refine kw_gf (pc := 10) 21 d_P_program_10 fl_P_47 (Or.inl ⟨by decide, rfl⟩) rfl (by decide) ?_
    obtain ⟨r7, T5, c6, w⟩ := w
    refine kw_cv (pc := 13) (As := []) d_P_program_13 c6 rfl k_Q_readProgram ml_P_114 (Or.inl ⟨by decide, rfl⟩) (by omega) (Nat.le_of_ble_eq_true rfl) ?_
    refine kv_p (fun _ _ _ _ _ _ v => vv_astore_n (pc := 16) d_P_program_16 (cp_isr_rf (kr G r7)) (Nat.le_of_ble_eq_true rfl) v) ?_
    refine kv_p (fun _ _ _ _ _ _ v => vv_aload_nr (pc := 17) d_P_program_17 (cp_isr_rf (kr G r7)) rfl v) ?_
    refine kw_ifnonnull (pc := 18) (tgt := 26) d_P_program_18 rfl (fun hc => ?_) (fun hc => ?_)
    · replace w := w.1 hc
      refine kv_86 (fun h8 => ?_)
      refine kw_new (pc := 26) (N := 5) d_P_program_26 cp_ok10 cl_P_105 rfl (by decide) kdef10 ?_
      refine kv_p (fun _ _ _ _ _ _ v => vv_dup (pc := 29) d_P_program_29 (kr_cat _) v) ?_
      refine kv_p (fun _ _ _ _ _ _ v => vv_iload_n (pc := 30) d_P_program_30 rfl v) ?_
      refine kv_p (fun _ _ _ _ _ _ v => vv_iconst (pc := 31) (v := 1) d_P_program_31 rfl v) ?_
      refine kv_p (fun _ _ _ _ _ _ v => vv_aload_nr (pc := 32) d_P_program_32 (cp_isr_rf (kr G r7)) rfl v) ?_
      obtain ⟨T9, c10, w⟩ := w
      refine kw_ci (pc := 33) (As := [.int x1, .int 1, va_rf (kr G r7)]) d_P_program_33 c10 rfl k_E_init ml_P_107 (nd_self h8) (by omega) (by cases kr G T5.1.1 <;> exact Nat.le_of_ble_eq_true rfl) ?_
      refine kv_p (fun _ _ _ _ _ _ v => vv_astore_n (pc := 36) d_P_program_36 (cp_isr_rf (kr G T5.1.1)) (Nat.le_of_ble_eq_true rfl) v) ?_
      refine kw_lv (lv := [(3, va_rf (kr G T5.1.1)), (2, va_rf (kr G r7)), (0, .ref (cp_b G + 0)), (1, .int x1)]) (by cases kr G r7 <;> rfl) ?_
      refine kv_p (fun _ _ _ _ _ _ v => vv_aload_n (pc := 37) d_P_program_37 rfl v) ?_
      refine kw_gf (pc := 38) 25 d_P_program_38 fl_P_74 (Or.inl ⟨by decide, rfl⟩) rfl (by decide) ?_
      refine kv_p (fun _ _ _ _ _ _ v => vv_aload_nr (pc := 41) d_P_program_41 (cp_isr_rf (kr G T5.1.1)) rfl v) ?_
      obtain ⟨r13, T11, c12, w⟩ := w
      refine kw_cv (pc := 42) (As := [va_rf (kr G T5.1.1)]) d_P_program_42 c12 rfl k_I_wrongInProgram ml_P_117 (Or.inl ⟨by decide, rfl⟩) (by omega) (Nat.le_of_ble_eq_true rfl) ?_
      refine kv_p (fun _ _ _ _ _ _ v => vv_istore (pc := 45) d_P_program_45 (Nat.le_of_ble_eq_true rfl) v) ?_
      refine kw_lv (lv := [(4, .int r13), (3, va_rf (kr G T5.1.1)), (2, va_rf (kr G r7)), (0, .ref (cp_b G + 0)), (1, .int x1)]) (by cases kr G T5.1.1 <;> rfl) ?_
      refine kv_p (fun _ _ _ _ _ _ v => vv_iload (pc := 47) d_P_program_47 rfl v) ?_
      refine kv_p (fun _ _ _ _ _ _ v => vv_iconst (pc := 49) (v := (-1)) d_P_program_49 rfl v) ?_
      by_cases hc : (r13 : Int32) = (-1)
      · replace w := w.1 hc
        refine kv_p (fun _ _ _ _ _ _ v => vv_icmp_eq (pc := 50) (tgt := 59) d_P_program_50 rfl (fun _ => v) (fun hn => absurd hc hn)) ?_
        refine kv_p (fun _ _ _ _ _ _ v => vv_aload_n (pc := 59) d_P_program_59 rfl v) ?_
        refine kv_p (fun _ _ _ _ _ _ v => vv_aload_nr (pc := 60) d_P_program_60 (cp_isr_rf (kr G T5.1.1)) rfl v) ?_
        obtain ⟨r16, T14, c15, w⟩ := w
        refine kw_cv (pc := 61) (As := [va_rf (kr G T5.1.1)]) d_P_program_61 c15 rfl k_P_enter ml_P_110 (Or.inl ⟨by decide, rfl⟩) (by omega) (Nat.le_of_ble_eq_true rfl) ?_
        obtain ⟨rfl, rfl⟩ := w
        exact kv_e (fun _ _ => vv_iret (pc := 64) d_P_program_64 rfl)
      · replace w := w.2 hc
        refine kv_p (fun _ _ _ _ _ _ v => vv_icmp_eq (pc := 50) (tgt := 59) d_P_program_50 rfl (fun hn => absurd hn hc) (fun _ => v)) ?_
        refine kv_p (fun _ _ _ _ _ _ v => vv_bipush (pc := 53) (v := (-100)) d_P_program_53 rfl v) ?_
        refine kv_p (fun _ _ _ _ _ _ v => vv_iload (pc := 55) d_P_program_55 rfl v) ?_
        refine kv_p (fun _ _ _ _ _ _ v => vv_isub (pc := 57) d_P_program_57 v) ?_
        obtain ⟨rfl, rfl⟩ := w
        exact kv_e (fun _ _ => vv_iret (pc := 58) d_P_program_58 rfl)
    · replace w := w.2 hc
      refine kv_p (fun _ _ _ _ _ _ v => vv_aload_n (pc := 21) d_P_program_21 rfl v) ?_
      refine kw_cv (pc := 22) (As := []) (As0 := (fun G => [.ref (cp_b G + 0)])) d_P_program_22 (C_Pfault) rfl k_P_fault ml_P_97 (Or.inl ⟨by decide, rfl⟩) (by omega) (Nat.le_of_ble_eq_true rfl) ?_
      obtain ⟨rfl, rfl⟩ := w
      exact kv_e (fun _ _ => vv_iret (pc := 25) d_P_program_25 rfl)
  · exact kw_thv (pc := 2) (As := [.int x1]) d_P_program_2 c2 rfl k_P_refuseUnlessFree ml_P_86 (Or.inl ⟨by decide, rfl⟩) (by omega) (Nat.le_of_ble_eq_true rfl) k_P_program.1
theorem c_P_program {D : Nat} {o : cp_G → Option Value} {K' K : cp_K} {x1 : Int32} (w : wp_P_program_0 D (fun G => .inl (o G)) K' K x1) : KC (D + 8) m_P_program (fun G => [.ref (cp_b G + 0), .int x1]) K o K' := KC.of2 rfl (fun G => by exact ⟨Nat.le_of_ble_eq_true rfl, rfl⟩) (b_P_program_0 w)
theorem t_P_program {D ci i : Nat} {K' K : cp_K} {x1 : Int32} (w : wp_P_program_0 D (fun _ => .inr (ci, i)) K' K x1) : KT (D + 8) m_P_program (fun G => [.ref (cp_b G + 0), .int x1]) K ci i K' := KT.of2 rfl (fun G => by exact ⟨Nat.le_of_ble_eq_true rfl, rfl⟩) (b_P_program_0 w)
def wp_P_check_0 (D : Nat) (o : cp_G → cp_O) (K' K : cp_K) : Prop := ∃ T1, KC (D + 7) m_P_openText (fun G => [.ref (cp_b G + 0)]) K (fun _ => none) T1 ∧ ∃ r5 T3, KC (D + 7) m_Q_readTerm (fun G => [.ref (cp_b G + 21)]) (kP (kI T1 23 4 0) 0 11 0) (fun G => some (va_rf (kr G r5))) T3 ∧ ((¬ r5 = (0 : Nat) → ∃ r8 T6, KC (D + 7) m_T_typeAlone (fun G => [.ref (cp_b G + 24), va_rf (kr G r5)]) T3 (fun _ => some (.int r8)) T6 ∧ ((¬ (r8 : Int32) = (-1) → ∃ r11 T9, KC (D + 7) m_P_show (fun G => [.ref (cp_b G + 0), .int r8]) T6 (fun _ => some (.int r11)) T9 ∧ ((¬ (r11 : Int32) = 0 → ∃ r14 T12, KC (D + 7) m_V_keep (fun G => [.ref (cp_b G + 6), .int r8, .int 1]) T9 (fun G => some (va_rf (kr G r14))) T12 ∧ ∃ r17 T15, KC (D + 7) m_P_pageShowsHole (fun G => [.ref (cp_b G + 0)]) (kP T12 0 11 r14) (fun _ => some (.int r17)) T15 ∧ (narrow (cp_ty 0 12) (.int r17) = .int r17 ∧ fits (cp_ty 0 12) (.int r17) = true) ∧ (o = (fun _ => .inl (some (.int ((kI T15 0 12 r17).2.1 0 3)))) ∧ K' = (kI T15 0 12 r17))) ∧ ((r11 : Int32) = 0 → (o = (fun _ => .inl (some (.int (-200)))) ∧ K' = T9)))) ∧ ((r8 : Int32) = (-1) → (o = (fun _ => .inl (some (.int ((-100) - (T6.2.1 24 6))))) ∧ K' = T6)))) ∧ (r5 = (0 : Nat) → (o = (fun _ => .inl (some (.int (-1 - T3.2.1 21 2)))) ∧ K' = T3)))
theorem b_P_check_0 {D : Nat} {o : cp_G → cp_O} {K' K : cp_K} (w : wp_P_check_0 D o K' K) : JC (D + 8) m_P_check o K' 0 (fun G => [(0, .ref (cp_b G + 0))]) (fun _ => []) K := by
  unfold wp_P_check_0 at w
  intro G H d n0 z0 hd
  show kV G H m_P_check d n0 z0 (o G) K' 0 [(0, .ref (cp_b G + 0))] [] K
  refine kv_p (fun _ _ _ _ _ _ v => vv_aload_n (pc := 0) d_P_check_0 rfl v) ?_
  obtain ⟨T1, c2, w⟩ := w
  refine kw_cv (pc := 1) (As := []) d_P_check_1 c2 rfl k_P_openText ml_P_90 (Or.inl ⟨by decide, rfl⟩) (by omega) (Nat.le_of_ble_eq_true rfl) ?_
  refine kv_p (fun _ _ _ _ _ _ v => vv_aload_n (pc := 4) d_P_check_4 rfl v) ?_
  refine kw_gf (pc := 5) 23 d_P_check_5 fl_P_56 (Or.inl ⟨by decide, rfl⟩) rfl (by decide) ?_
  refine kw_cv (pc := 8) (As := []) (As0 := (fun G => [.ref (cp_b G + 23)])) d_P_check_8 (C_UforgetSteps) rfl k_U_forgetSteps ml_P_120 (Or.inl ⟨by decide, rfl⟩) (by omega) (Nat.le_of_ble_eq_true rfl) ?_
  refine kv_p (fun _ _ _ _ _ _ v => vv_aload_n (pc := 11) d_P_check_11 rfl v) ?_
  refine kw_null (pc := 12) d_P_check_12 ?_
  refine kw_pr (pc := 13) (q := 0) d_P_check_13 fl_P_78 (Or.inl ⟨by decide, rfl⟩) rfl rfl rfl krf_0_11 ?_
  refine kv_p (fun _ _ _ _ _ _ v => vv_aload_n (pc := 16) d_P_check_16 rfl v) ?_
  refine kw_gf (pc := 17) 21 d_P_check_17 fl_P_47 (Or.inl ⟨by decide, rfl⟩) rfl (by decide) ?_
  obtain ⟨r5, T3, c4, w⟩ := w
  refine kw_cv (pc := 20) (As := []) d_P_check_20 c4 rfl k_Q_readTerm ml_P_123 (Or.inl ⟨by decide, rfl⟩) (by omega) (Nat.le_of_ble_eq_true rfl) ?_
  refine kv_p (fun _ _ _ _ _ _ v => vv_astore_n (pc := 23) d_P_check_23 (cp_isr_rf (kr G r5)) (Nat.le_of_ble_eq_true rfl) v) ?_
  refine kv_p (fun _ _ _ _ _ _ v => vv_aload_nr (pc := 24) d_P_check_24 (cp_isr_rf (kr G r5)) rfl v) ?_
  refine kw_ifnonnull (pc := 25) (tgt := 33) d_P_check_25 rfl (fun hc => ?_) (fun hc => ?_)
  · replace w := w.1 hc
    refine kv_p (fun _ _ _ _ _ _ v => vv_aload_n (pc := 33) d_P_check_33 rfl v) ?_
    refine kw_gf (pc := 34) 24 d_P_check_34 fl_P_65 (Or.inl ⟨by decide, rfl⟩) rfl (by decide) ?_
    refine kv_p (fun _ _ _ _ _ _ v => vv_aload_nr (pc := 37) d_P_check_37 (cp_isr_rf (kr G r5)) rfl v) ?_
    obtain ⟨r8, T6, c7, w⟩ := w
    refine kw_cv (pc := 38) (As := [va_rf (kr G r5)]) d_P_check_38 c7 rfl k_T_typeAlone ml_P_126 (Or.inl ⟨by decide, rfl⟩) (by omega) (Nat.le_of_ble_eq_true rfl) ?_
    refine kv_p (fun _ _ _ _ _ _ v => vv_istore_n (pc := 41) d_P_check_41 (Nat.le_of_ble_eq_true rfl) v) ?_
    refine kw_lv (lv := [(2, .int r8), (1, va_rf (kr G r5)), (0, .ref (cp_b G + 0))]) (by cases kr G r5 <;> rfl) ?_
    refine kv_p (fun _ _ _ _ _ _ v => vv_iload_n (pc := 42) d_P_check_42 rfl v) ?_
    refine kv_p (fun _ _ _ _ _ _ v => vv_iconst (pc := 43) (v := (-1)) d_P_check_43 rfl v) ?_
    by_cases hc : (r8 : Int32) = (-1)
    · replace w := w.2 hc
      refine kv_p (fun _ _ _ _ _ _ v => vv_icmp_ne (pc := 44) (tgt := 58) d_P_check_44 rfl (fun hn => absurd hc hn) (fun _ => v)) ?_
      refine kv_p (fun _ _ _ _ _ _ v => vv_bipush (pc := 47) (v := (-100)) d_P_check_47 rfl v) ?_
      refine kv_p (fun _ _ _ _ _ _ v => vv_aload_n (pc := 49) d_P_check_49 rfl v) ?_
      refine kw_gf (pc := 50) 24 d_P_check_50 fl_P_65 (Or.inl ⟨by decide, rfl⟩) rfl (by decide) ?_
      refine kw_cv (pc := 53) (As := []) (As0 := (fun G => [.ref (cp_b G + 24)])) d_P_check_53 (C_TwrongPlace) rfl k_T_wrongPlace ml_P_129 (Or.inl ⟨by decide, rfl⟩) (by omega) (Nat.le_of_ble_eq_true rfl) ?_
      refine kv_p (fun _ _ _ _ _ _ v => vv_isub (pc := 56) d_P_check_56 v) ?_
      obtain ⟨rfl, rfl⟩ := w
      exact kv_e (fun _ _ => vv_iret (pc := 57) d_P_check_57 rfl)
    · replace w := w.1 hc
      refine kv_p (fun _ _ _ _ _ _ v => vv_icmp_ne (pc := 44) (tgt := 58) d_P_check_44 rfl (fun _ => v) (fun hn => absurd hn hc)) ?_
      refine kv_p (fun _ _ _ _ _ _ v => vv_aload_n (pc := 58) d_P_check_58 rfl v) ?_
      refine kv_p (fun _ _ _ _ _ _ v => vv_iload_n (pc := 59) d_P_check_59 rfl v) ?_
      obtain ⟨r11, T9, c10, w⟩ := w
      refine kw_cv (pc := 60) (As := [.int r8]) d_P_check_60 c10 rfl k_P_show ml_P_132 (Or.inl ⟨by decide, rfl⟩) (by omega) (Nat.le_of_ble_eq_true rfl) ?_
      by_cases hc : (r11 : Int32) = 0
      · replace w := w.2 hc
        refine kv_p (fun _ _ _ _ _ _ v => vv_if_ne (pc := 63) (tgt := 70) d_P_check_63 rfl (fun hn => absurd hc hn) (fun _ => v)) ?_
        refine kv_p (fun _ _ _ _ _ _ v => vv_sipush (pc := 66) (v := (-200)) d_P_check_66 rfl v) ?_
        obtain ⟨rfl, rfl⟩ := w
        exact kv_e (fun _ _ => vv_iret (pc := 69) d_P_check_69 rfl)
      · replace w := w.1 hc
        refine kv_p (fun _ _ _ _ _ _ v => vv_if_ne (pc := 63) (tgt := 70) d_P_check_63 rfl (fun _ => v) (fun hn => absurd hn hc)) ?_
        refine kv_p (fun _ _ _ _ _ _ v => vv_aload_n (pc := 70) d_P_check_70 rfl v) ?_
        refine kv_p (fun _ _ _ _ _ _ v => vv_aload_n (pc := 71) d_P_check_71 rfl v) ?_
        refine kw_gf (pc := 72) 6 d_P_check_72 fl_P_33 (Or.inl ⟨by decide, rfl⟩) rfl (by decide) ?_
        refine kv_p (fun _ _ _ _ _ _ v => vv_iload_n (pc := 75) d_P_check_75 rfl v) ?_
        refine kv_p (fun _ _ _ _ _ _ v => vv_iconst (pc := 76) (v := 1) d_P_check_76 rfl v) ?_
        obtain ⟨r14, T12, c13, w⟩ := w
        refine kw_cv (pc := 77) (As := [.int r8, .int 1]) d_P_check_77 c13 rfl k_V_keep ml_P_136 (Or.inl ⟨by decide, rfl⟩) (by omega) (Nat.le_of_ble_eq_true rfl) ?_
        refine kw_pr (pc := 80) (q := r14) d_P_check_80 fl_P_78 (Or.inl ⟨by decide, rfl⟩) rfl rfl rfl krf_0_11 ?_
        refine kv_p (fun _ _ _ _ _ _ v => vv_aload_n (pc := 83) d_P_check_83 rfl v) ?_
        refine kv_p (fun _ _ _ _ _ _ v => vv_aload_n (pc := 84) d_P_check_84 rfl v) ?_
        obtain ⟨r17, T15, c16, w⟩ := w
        refine kw_cv (pc := 85) (As := []) d_P_check_85 c16 rfl k_P_pageShowsHole ml_P_140 (Or.inl ⟨by decide, rfl⟩) (by omega) (Nat.le_of_ble_eq_true rfl) ?_
        obtain ⟨b18, w⟩ := w
        refine kw_pi (pc := 88) d_P_check_88 fl_P_82 (Or.inl ⟨by decide, rfl⟩) rfl rfl rfl b18.1 b18.2 ?_
        refine kv_p (fun _ _ _ _ _ _ v => vv_aload_n (pc := 91) d_P_check_91 rfl v) ?_
        refine kw_gi (pc := 92) d_P_check_92 fl_P_20 (Or.inl ⟨by decide, rfl⟩) rfl rfl ?_
        obtain ⟨rfl, rfl⟩ := w
        exact kv_e (fun _ _ => vv_iret (pc := 95) d_P_check_95 rfl)
  · replace w := w.2 hc
    refine kv_p (fun _ _ _ _ _ _ v => vv_aload_n (pc := 28) d_P_check_28 rfl v) ?_
    refine kw_cv (pc := 29) (As := []) (As0 := (fun G => [.ref (cp_b G + 0)])) d_P_check_29 (C_Pfault) rfl k_P_fault ml_P_97 (Or.inl ⟨by decide, rfl⟩) (by omega) (Nat.le_of_ble_eq_true rfl) ?_
    obtain ⟨rfl, rfl⟩ := w
    exact kv_e (fun _ _ => vv_iret (pc := 32) d_P_check_32 rfl)
theorem c_P_check {D : Nat} {o : cp_G → Option Value} {K' K : cp_K} (w : wp_P_check_0 D (fun G => .inl (o G)) K' K) : KC (D + 8) m_P_check (fun G => [.ref (cp_b G + 0)]) K o K' := KC.of2 rfl (fun G => by exact ⟨Nat.le_of_ble_eq_true rfl, rfl⟩) (b_P_check_0 w)
def wp_P_lemma_0 (D : Nat) (o : cp_G → cp_O) (K' K : cp_K) (x1 : Int32) : Prop := ((∃ T1, KC (D + 7) m_P_refuseUnlessFree (fun G => [.ref (cp_b G + 0), .int x1]) K (fun _ => none) T1 ∧ (((T1.2.2.1 0 11) = (0 : Nat) → (o = (fun _ => .inr (13, T1.1.1)) ∧ K' = kN T1 99)) ∧ (¬ (T1.2.2.1 0 11) = (0 : Nat) → ((((T1.2.1 0 12) : Int32) = 0 → (¬ (ninit (kN T1 9) T1.1.1 16 0 0).2.2.1 T1.1.1 5 = 0 → nd (ninit (kN T1 9) T1.1.1 16 0 0) ((ninit (kN T1 9) T1.1.1 16 0 0).2.2.1 T1.1.1 5) 9) ∧ (¬ (ninit (kN (nadd (ninit (kN T1 9) T1.1.1 16 0 0) T1.1.1 ((ninit (kN T1 9) T1.1.1 16 0 0).2.2.1 0 11)) 9) (nadd (ninit (kN T1 9) T1.1.1 16 0 0) T1.1.1 ((ninit (kN T1 9) T1.1.1 16 0 0).2.2.1 0 11)).1.1 17 0 0).2.2.1 (nadd (ninit (kN T1 9) T1.1.1 16 0 0) T1.1.1 ((ninit (kN T1 9) T1.1.1 16 0 0).2.2.1 0 11)).1.1 5 = 0 → nd (ninit (kN (nadd (ninit (kN T1 9) T1.1.1 16 0 0) T1.1.1 ((ninit (kN T1 9) T1.1.1 16 0 0).2.2.1 0 11)) 9) (nadd (ninit (kN T1 9) T1.1.1 16 0 0) T1.1.1 ((ninit (kN T1 9) T1.1.1 16 0 0).2.2.1 0 11)).1.1 17 0 0) ((ninit (kN (nadd (ninit (kN T1 9) T1.1.1 16 0 0) T1.1.1 ((ninit (kN T1 9) T1.1.1 16 0 0).2.2.1 0 11)) 9) (nadd (ninit (kN T1 9) T1.1.1 16 0 0) T1.1.1 ((ninit (kN T1 9) T1.1.1 16 0 0).2.2.1 0 11)).1.1 17 0 0).2.2.1 (nadd (ninit (kN T1 9) T1.1.1 16 0 0) T1.1.1 ((ninit (kN T1 9) T1.1.1 16 0 0).2.2.1 0 11)).1.1 5) 9) ∧ ∃ T8, KC (D + 7) m_E_init (fun G => [va_rf (kr G (nadd (ninit (kN (nadd (ninit (kN T1 9) T1.1.1 16 0 0) T1.1.1 ((ninit (kN T1 9) T1.1.1 16 0 0).2.2.1 0 11)) 9) (nadd (ninit (kN T1 9) T1.1.1 16 0 0) T1.1.1 ((ninit (kN T1 9) T1.1.1 16 0 0).2.2.1 0 11)).1.1 17 0 0) (nadd (ninit (kN T1 9) T1.1.1 16 0 0) T1.1.1 ((ninit (kN T1 9) T1.1.1 16 0 0).2.2.1 0 11)).1.1 T1.1.1).1.1), .int x1, .int 0, va_rf (kr G (nadd (ninit (kN T1 9) T1.1.1 16 0 0) T1.1.1 ((ninit (kN T1 9) T1.1.1 16 0 0).2.2.1 0 11)).1.1)]) (kN (nadd (ninit (kN (nadd (ninit (kN T1 9) T1.1.1 16 0 0) T1.1.1 ((ninit (kN T1 9) T1.1.1 16 0 0).2.2.1 0 11)) 9) (nadd (ninit (kN T1 9) T1.1.1 16 0 0) T1.1.1 ((ninit (kN T1 9) T1.1.1 16 0 0).2.2.1 0 11)).1.1 17 0 0) (nadd (ninit (kN T1 9) T1.1.1 16 0 0) T1.1.1 ((ninit (kN T1 9) T1.1.1 16 0 0).2.2.1 0 11)).1.1 T1.1.1) 10) (fun _ => none) T8 ∧ ∃ r12 T10, KC (D + 7) m_P_enter (fun G => [.ref (cp_b G + 0), va_rf (kr G (nadd (ninit (kN (nadd (ninit (kN T1 9) T1.1.1 16 0 0) T1.1.1 ((ninit (kN T1 9) T1.1.1 16 0 0).2.2.1 0 11)) 9) (nadd (ninit (kN T1 9) T1.1.1 16 0 0) T1.1.1 ((ninit (kN T1 9) T1.1.1 16 0 0).2.2.1 0 11)).1.1 17 0 0) (nadd (ninit (kN T1 9) T1.1.1 16 0 0) T1.1.1 ((ninit (kN T1 9) T1.1.1 16 0 0).2.2.1 0 11)).1.1 T1.1.1).1.1)]) T8 (fun _ => some (.int r12)) T10 ∧ (o = (fun _ => .inl none) ∧ K' = T10)) ∧ (¬ ((T1.2.1 0 12) : Int32) = 0 → (o = (fun _ => .inr (13, T1.1.1)) ∧ K' = kN T1 99)))))) ∨ (∃ u14 v15 T13, KT (D + 7) m_P_refuseUnlessFree (fun G => [.ref (cp_b G + 0), .int x1]) K u14 v15 T13 ∧ o = (fun _ => .inr (u14, v15)) ∧ K' = T13))
theorem b_P_lemma_0 {D : Nat} {o : cp_G → cp_O} {K' K : cp_K} {x1 : Int32} (w : wp_P_lemma_0 D o K' K x1) : JC (D + 8) m_P_lemma o K' 0 (fun G => [(0, .ref (cp_b G + 0)), (1, .int x1)]) (fun _ => []) K := by
  unfold wp_P_lemma_0 at w
  intro G H d n0 z0 hd
  show kV G H m_P_lemma d n0 z0 (o G) K' 0 [(0, .ref (cp_b G + 0)), (1, .int x1)] [] K
  refine kv_p (fun _ _ _ _ _ _ v => vv_aload_n (pc := 0) d_P_lemma_0 rfl v) ?_
  refine kv_p (fun _ _ _ _ _ _ v => vv_iload_n (pc := 1) d_P_lemma_1 rfl v) ?_
  rcases w with ⟨T1, c2, w⟩ | ⟨u14, v15, T13, c2, rfl, rfl⟩
  · refine kw_cv (pc := 2) (As := [.int x1]) d_P_lemma_2 c2 rfl k_P_refuseUnlessFree ml_P_86 (Or.inl ⟨by decide, rfl⟩) (by omega) (Nat.le_of_ble_eq_true rfl) ?_
    refine kv_p (fun _ _ _ _ _ _ v => vv_aload_n (pc := 5) d_P_lemma_5 rfl v) ?_
    refine kw_gr (pc := 6) d_P_lemma_6 fl_P_78 (Or.inl ⟨by decide, rfl⟩) rfl rfl ?_
    refine kw_ifnull (pc := 9) (tgt := 19) d_P_lemma_9 rfl (fun hc => ?_) (fun hc => ?_)
    · replace w := w.1 hc
      obtain ⟨rfl, rfl⟩ := w
      exact kw_throw (pc := 19) (tx := "no result without holes") d_P_lemma_19 d_P_lemma_22 d_P_lemma_23 d_P_lemma_25 d_P_lemma_28 cp_ok13 cl_P_144 rfl cp_thr13 (by decide) cp_fit13 (by omega) (Nat.le_of_ble_eq_true rfl) k_P_lemma.1 rfl (by decide)
    · replace w := w.2 hc
      refine kv_p (fun _ _ _ _ _ _ v => vv_aload_n (pc := 12) d_P_lemma_12 rfl v) ?_
      refine kw_gi (pc := 13) d_P_lemma_13 fl_P_82 (Or.inl ⟨by decide, rfl⟩) rfl rfl ?_
      by_cases hc : ((T1.2.1 0 12) : Int32) = 0
      · replace w := w.1 hc
        refine kv_p (fun _ _ _ _ _ _ v => vv_if_eq (pc := 16) (tgt := 29) d_P_lemma_16 rfl (fun _ => v) (fun hn => absurd hc hn)) ?_
        refine kv_86 (fun h3 => ?_)
        refine kw_new (pc := 29) (N := 7) d_P_lemma_29 cp_ok9 cl_P_151 rfl (by decide) kdef9 ?_
        refine kv_p (fun _ _ _ _ _ _ v => vv_dup (pc := 32) d_P_lemma_32 (kr_cat _) v) ?_
        refine kv_p (fun _ _ _ _ _ _ v => vv_bipush (pc := 33) (v := 16) d_P_lemma_33 rfl v) ?_
        refine kv_p (fun _ _ _ _ _ _ v => vv_iconst (pc := 35) (v := 0) d_P_lemma_35 rfl v) ?_
        refine kv_p (fun _ _ _ _ _ _ v => vv_iconst (pc := 36) (v := 0) d_P_lemma_36 rfl v) ?_
        refine kw_ci (pc := 37) (As := [.int 16, .int 0, .int 0]) (As0 := (fun G => [va_rf (kr G T1.1.1), .int 16, .int 0, .int 0])) d_P_lemma_37 (C_Ninit (nd_self h3)) rfl k_N_init ml_P_153 (nd_self h3) (by omega) (by cases kr G T1.1.1 <;> exact Nat.le_of_ble_eq_true rfl) ?_
        refine kv_p (fun _ _ _ _ _ _ v => vv_astore_n (pc := 40) d_P_lemma_40 (cp_isr_rf (kr G T1.1.1)) (Nat.le_of_ble_eq_true rfl) v) ?_
        refine kv_p (fun _ _ _ _ _ _ v => vv_aload_nr (pc := 41) d_P_lemma_41 (cp_isr_rf (kr G T1.1.1)) rfl v) ?_
        refine kv_p (fun _ _ _ _ _ _ v => vv_aload_n (pc := 42) d_P_lemma_42 rfl v) ?_
        refine kw_gr (pc := 43) d_P_lemma_43 fl_P_78 (Or.inl ⟨by decide, rfl⟩) rfl rfl ?_
        obtain ⟨b4, w⟩ := w
        refine kw_cn (pc := 46) (As := [va_rf (kr G ((ninit (kN T1 9) T1.1.1 16 0 0).2.2.1 0 11))]) (As0 := (fun G => [va_rf (kr G T1.1.1), va_rf (kr G ((ninit (kN T1 9) T1.1.1 16 0 0).2.2.1 0 11))])) d_P_lemma_46 (C_Nadd (nd_ninit (nd_self h3)) b4) rfl k_N_add ml_P_156 (nd_ninit (nd_self h3)) (by omega) (Nat.le_of_ble_eq_true rfl) ?_
        refine kv_86 (fun h5 => ?_)
        refine kw_new (pc := 49) (N := 7) d_P_lemma_49 cp_ok9 cl_P_151 rfl (by decide) kdef9 ?_
        refine kv_p (fun _ _ _ _ _ _ v => vv_dup (pc := 52) d_P_lemma_52 (kr_cat _) v) ?_
        refine kv_p (fun _ _ _ _ _ _ v => vv_bipush (pc := 53) (v := 17) d_P_lemma_53 rfl v) ?_
        refine kv_p (fun _ _ _ _ _ _ v => vv_iconst (pc := 55) (v := 0) d_P_lemma_55 rfl v) ?_
        refine kv_p (fun _ _ _ _ _ _ v => vv_iconst (pc := 56) (v := 0) d_P_lemma_56 rfl v) ?_
        refine kw_ci (pc := 57) (As := [.int 17, .int 0, .int 0]) (As0 := (fun G => [va_rf (kr G (nadd (ninit (kN T1 9) T1.1.1 16 0 0) T1.1.1 ((ninit (kN T1 9) T1.1.1 16 0 0).2.2.1 0 11)).1.1), .int 17, .int 0, .int 0])) d_P_lemma_57 (C_Ninit (nd_self h5)) rfl k_N_init ml_P_153 (nd_self h5) (by omega) (by cases kr G (nadd (ninit (kN T1 9) T1.1.1 16 0 0) T1.1.1 ((ninit (kN T1 9) T1.1.1 16 0 0).2.2.1 0 11)).1.1 <;> exact Nat.le_of_ble_eq_true rfl) ?_
        refine kv_p (fun _ _ _ _ _ _ v => vv_astore_n (pc := 60) d_P_lemma_60 (cp_isr_rf (kr G (nadd (ninit (kN T1 9) T1.1.1 16 0 0) T1.1.1 ((ninit (kN T1 9) T1.1.1 16 0 0).2.2.1 0 11)).1.1)) (Nat.le_of_ble_eq_true rfl) v) ?_
        refine kw_lv (lv := [(3, va_rf (kr G (nadd (ninit (kN T1 9) T1.1.1 16 0 0) T1.1.1 ((ninit (kN T1 9) T1.1.1 16 0 0).2.2.1 0 11)).1.1)), (2, va_rf (kr G T1.1.1)), (0, .ref (cp_b G + 0)), (1, .int x1)]) (by cases kr G T1.1.1 <;> rfl) ?_
        refine kv_p (fun _ _ _ _ _ _ v => vv_aload_nr (pc := 61) d_P_lemma_61 (cp_isr_rf (kr G (nadd (ninit (kN T1 9) T1.1.1 16 0 0) T1.1.1 ((ninit (kN T1 9) T1.1.1 16 0 0).2.2.1 0 11)).1.1)) rfl v) ?_
        refine kv_p (fun _ _ _ _ _ _ v => vv_aload_nr (pc := 62) d_P_lemma_62 (cp_isr_rf (kr G T1.1.1)) rfl v) ?_
        obtain ⟨b6, w⟩ := w
        refine kw_cn (pc := 63) (As := [va_rf (kr G T1.1.1)]) (As0 := (fun G => [va_rf (kr G (nadd (ninit (kN T1 9) T1.1.1 16 0 0) T1.1.1 ((ninit (kN T1 9) T1.1.1 16 0 0).2.2.1 0 11)).1.1), va_rf (kr G T1.1.1)])) d_P_lemma_63 (C_Nadd (nd_ninit (nd_self h5)) b6) rfl k_N_add ml_P_156 (nd_ninit (nd_self h5)) (by omega) (Nat.le_of_ble_eq_true rfl) ?_
        refine kv_p (fun _ _ _ _ _ _ v => vv_aload_n (pc := 66) d_P_lemma_66 rfl v) ?_
        refine kv_86 (fun h7 => ?_)
        refine kw_new (pc := 67) (N := 5) d_P_lemma_67 cp_ok10 cl_P_105 rfl (by decide) kdef10 ?_
        refine kv_p (fun _ _ _ _ _ _ v => vv_dup (pc := 70) d_P_lemma_70 (kr_cat _) v) ?_
        refine kv_p (fun _ _ _ _ _ _ v => vv_iload_n (pc := 71) d_P_lemma_71 rfl v) ?_
        refine kv_p (fun _ _ _ _ _ _ v => vv_iconst (pc := 72) (v := 0) d_P_lemma_72 rfl v) ?_
        refine kv_p (fun _ _ _ _ _ _ v => vv_aload_nr (pc := 73) d_P_lemma_73 (cp_isr_rf (kr G (nadd (ninit (kN T1 9) T1.1.1 16 0 0) T1.1.1 ((ninit (kN T1 9) T1.1.1 16 0 0).2.2.1 0 11)).1.1)) rfl v) ?_
        obtain ⟨T8, c9, w⟩ := w
        refine kw_ci (pc := 74) (As := [.int x1, .int 0, va_rf (kr G (nadd (ninit (kN T1 9) T1.1.1 16 0 0) T1.1.1 ((ninit (kN T1 9) T1.1.1 16 0 0).2.2.1 0 11)).1.1)]) d_P_lemma_74 c9 rfl k_E_init ml_P_107 (nd_self h7) (by omega) (by cases kr G (nadd (ninit (kN (nadd (ninit (kN T1 9) T1.1.1 16 0 0) T1.1.1 ((ninit (kN T1 9) T1.1.1 16 0 0).2.2.1 0 11)) 9) (nadd (ninit (kN T1 9) T1.1.1 16 0 0) T1.1.1 ((ninit (kN T1 9) T1.1.1 16 0 0).2.2.1 0 11)).1.1 17 0 0) (nadd (ninit (kN T1 9) T1.1.1 16 0 0) T1.1.1 ((ninit (kN T1 9) T1.1.1 16 0 0).2.2.1 0 11)).1.1 T1.1.1).1.1 <;> exact Nat.le_of_ble_eq_true rfl) ?_
        obtain ⟨r12, T10, c11, w⟩ := w
        refine kw_cv (pc := 77) (As := [va_rf (kr G (nadd (ninit (kN (nadd (ninit (kN T1 9) T1.1.1 16 0 0) T1.1.1 ((ninit (kN T1 9) T1.1.1 16 0 0).2.2.1 0 11)) 9) (nadd (ninit (kN T1 9) T1.1.1 16 0 0) T1.1.1 ((ninit (kN T1 9) T1.1.1 16 0 0).2.2.1 0 11)).1.1 17 0 0) (nadd (ninit (kN T1 9) T1.1.1 16 0 0) T1.1.1 ((ninit (kN T1 9) T1.1.1 16 0 0).2.2.1 0 11)).1.1 T1.1.1).1.1)]) d_P_lemma_77 c11 rfl k_P_enter ml_P_110 (Or.inl ⟨by decide, rfl⟩) (by omega) (Nat.le_of_ble_eq_true rfl) ?_
        refine kv_p (fun _ _ _ _ _ _ v => vv_pop (pc := 80) d_P_lemma_80 rfl v) ?_
        obtain ⟨rfl, rfl⟩ := w
        exact kv_e (fun _ _ => vv_vret (pc := 81) d_P_lemma_81 rfl)
      · replace w := w.2 hc
        refine kv_p (fun _ _ _ _ _ _ v => vv_if_eq (pc := 16) (tgt := 29) d_P_lemma_16 rfl (fun hn => absurd hn hc) (fun _ => v)) ?_
        obtain ⟨rfl, rfl⟩ := w
        exact kw_throw (pc := 19) (tx := "no result without holes") d_P_lemma_19 d_P_lemma_22 d_P_lemma_23 d_P_lemma_25 d_P_lemma_28 cp_ok13 cl_P_144 rfl cp_thr13 (by decide) cp_fit13 (by omega) (Nat.le_of_ble_eq_true rfl) k_P_lemma.1 rfl (by decide)
  · exact kw_thv (pc := 2) (As := [.int x1]) d_P_lemma_2 c2 rfl k_P_refuseUnlessFree ml_P_86 (Or.inl ⟨by decide, rfl⟩) (by omega) (Nat.le_of_ble_eq_true rfl) k_P_lemma.1
theorem c_P_lemma {D : Nat} {o : cp_G → Option Value} {K' K : cp_K} {x1 : Int32} (w : wp_P_lemma_0 D (fun G => .inl (o G)) K' K x1) : KC (D + 8) m_P_lemma (fun G => [.ref (cp_b G + 0), .int x1]) K o K' := KC.of2 rfl (fun G => by exact ⟨Nat.le_of_ble_eq_true rfl, rfl⟩) (b_P_lemma_0 w)
theorem t_P_lemma {D ci i : Nat} {K' K : cp_K} {x1 : Int32} (w : wp_P_lemma_0 D (fun _ => .inr (ci, i)) K' K x1) : KT (D + 8) m_P_lemma (fun G => [.ref (cp_b G + 0), .int x1]) K ci i K' := KT.of2 rfl (fun G => by exact ⟨Nat.le_of_ble_eq_true rfl, rfl⟩) (b_P_lemma_0 w)
def wp_P_retract_0 (D : Nat) (o : cp_G → cp_O) (K' K : cp_K) : Prop := ((((if K.2.1 3 2 = 0 then 1 else 0) : Int32) = 0 → ∃ r3 T1, KC (D + 7) m_D_removeLatest (fun G => [.ref (cp_b G + 3)]) (kP K 0 11 0) (fun _ => some (.int r3)) T1 ∧ (o = (fun _ => .inl (some (.int r3))) ∧ K' = T1 ∧ narrow .char (.int r3) = .int r3)) ∧ (¬ ((if K.2.1 3 2 = 0 then 1 else 0) : Int32) = 0 → (o = (fun _ => .inr (13, K.1.1)) ∧ K' = kN K 99)))
theorem b_P_retract_0 {D : Nat} {o : cp_G → cp_O} {K' K : cp_K} (w : wp_P_retract_0 D o K' K) : JC (D + 8) m_P_retract o K' 0 (fun G => [(0, .ref (cp_b G + 0))]) (fun _ => []) K := by
  unfold wp_P_retract_0 at w
  intro G H d n0 z0 hd
  show kV G H m_P_retract d n0 z0 (o G) K' 0 [(0, .ref (cp_b G + 0))] [] K
  refine kv_p (fun _ _ _ _ _ _ v => vv_aload_n (pc := 0) d_P_retract_0 rfl v) ?_
  refine kw_gf (pc := 1) 3 d_P_retract_1 fl_P_26 (Or.inl ⟨by decide, rfl⟩) rfl (by decide) ?_
  refine kw_cv (pc := 4) (As := []) (As0 := (fun G => [.ref (cp_b G + 3)])) d_P_retract_4 (C_DisEmpty) rfl k_D_isEmpty ml_P_160 (Or.inl ⟨by decide, rfl⟩) (by omega) (Nat.le_of_ble_eq_true rfl) ?_
  by_cases hc : ((if K.2.1 3 2 = 0 then 1 else 0) : Int32) = 0
  · replace w := w.1 hc
    refine kv_p (fun _ _ _ _ _ _ v => vv_if_eq (pc := 7) (tgt := 20) d_P_retract_7 rfl (fun _ => v) (fun hn => absurd hc hn)) ?_
    refine kv_p (fun _ _ _ _ _ _ v => vv_aload_n (pc := 20) d_P_retract_20 rfl v) ?_
    refine kw_null (pc := 21) d_P_retract_21 ?_
    refine kw_pr (pc := 22) (q := 0) d_P_retract_22 fl_P_78 (Or.inl ⟨by decide, rfl⟩) rfl rfl rfl krf_0_11 ?_
    refine kv_p (fun _ _ _ _ _ _ v => vv_aload_n (pc := 25) d_P_retract_25 rfl v) ?_
    refine kw_gf (pc := 26) 3 d_P_retract_26 fl_P_26 (Or.inl ⟨by decide, rfl⟩) rfl (by decide) ?_
    obtain ⟨r3, T1, c2, w⟩ := w
    refine kw_cv (pc := 29) (As := []) d_P_retract_29 c2 rfl k_D_removeLatest ml_P_165 (Or.inl ⟨by decide, rfl⟩) (by omega) (Nat.le_of_ble_eq_true rfl) ?_
    obtain ⟨rfl, rfl, hx⟩ := w
    exact kv_e (fun _ _ => vv_zret (pc := 32) d_P_retract_32 rfl hx)
  · replace w := w.2 hc
    refine kv_p (fun _ _ _ _ _ _ v => vv_if_eq (pc := 7) (tgt := 20) d_P_retract_7 rfl (fun hn => absurd hn hc) (fun _ => v)) ?_
    obtain ⟨rfl, rfl⟩ := w
    exact kw_throw (pc := 10) (tx := "nothing is declared") d_P_retract_10 d_P_retract_13 d_P_retract_14 d_P_retract_16 d_P_retract_19 cp_ok13 cl_P_144 rfl cp_thr13 (by decide) cp_fit13 (by omega) (Nat.le_of_ble_eq_true rfl) k_P_retract.1 rfl (by decide)
theorem c_P_retract {D : Nat} {o : cp_G → Option Value} {K' K : cp_K} (w : wp_P_retract_0 D (fun G => .inl (o G)) K' K) : KC (D + 8) m_P_retract (fun G => [.ref (cp_b G + 0)]) K o K' := KC.of2 rfl (fun G => by exact ⟨Nat.le_of_ble_eq_true rfl, rfl⟩) (b_P_retract_0 w)
theorem t_P_retract {D ci i : Nat} {K' K : cp_K} (w : wp_P_retract_0 D (fun _ => .inr (ci, i)) K' K) : KT (D + 8) m_P_retract (fun G => [.ref (cp_b G + 0)]) K ci i K' := KT.of2 rfl (fun G => by exact ⟨Nat.le_of_ble_eq_true rfl, rfl⟩) (b_P_retract_0 w)
def wp_P_run_0 (D : Nat) (o : cp_G → cp_O) (K' K : cp_K) (x1 : Int32) : Prop := (((dfind K x1) = (0 : Nat) → (o = (fun _ => .inr (12, K.1.1)) ∧ K' = kN K 99)) ∧ (¬ (dfind K x1) = (0 : Nat) → nd K (dfind K x1) 10 ∧ ((¬ ((K.2.1 (dfind K x1) 1) : Int32) = 0 → ∃ T2, KC (D + 7) m_P_openText (fun G => [.ref (cp_b G + 0)]) K (fun _ => none) T2 ∧ ∃ r6 T4, KC (D + 7) m_Q_readTerms (fun G => [.ref (cp_b G + 21)]) (kI T2 23 4 0) (fun G => some (va_rf (kr G r6))) T4 ∧ ((¬ r6 = (0 : Nat) → nd T4 r6 9 ∧ nd T4 (dfind K x1) 10 ∧ ((((T4.2.1 r6 3) : Int32) = (T4.2.1 (dfind K x1) 2) → ∃ r11 T9, KC (D + 7) m_T_wrongInArguments (fun G => [.ref (cp_b G + 24), va_rf (kr G r6)]) T4 (fun _ => some (.int r11)) T9 ∧ (((r11 : Int32) = (-1) → ∃ r14 T12, KC (D + 7) m_U_carryOut (fun G => [.ref (cp_b G + 23), .int x1, .int 0]) T9 (fun _ => some (.int r14)) T12 ∧ ((¬ (r14 : Int32) = (-1) → ∃ r17 T15, KC (D + 7) m_P_show (fun G => [.ref (cp_b G + 0), .int r14]) T12 (fun _ => some (.int r17)) T15 ∧ (((r17 : Int32) = 0 → (o = (fun _ => .inl (some (.int (-200)))) ∧ K' = T15)) ∧ (¬ (r17 : Int32) = 0 → (o = (fun _ => .inl (some (.int (T15.2.1 0 3)))) ∧ K' = T15)))) ∧ ((r14 : Int32) = (-1) → (o = (fun _ => .inl (some (.int (-300)))) ∧ K' = T12)))) ∧ (¬ (r11 : Int32) = (-1) → (o = (fun _ => .inl (some (.int ((-100) - r11)))) ∧ K' = T9)))) ∧ (¬ ((T4.2.1 r6 3) : Int32) = (T4.2.1 (dfind K x1) 2) → (o = (fun _ => .inl (some (.int (-100)))) ∧ K' = T4)))) ∧ (r6 = (0 : Nat) → (o = (fun _ => .inl (some (.int (-1 - T4.2.1 21 2)))) ∧ K' = T4)))) ∧ (((K.2.1 (dfind K x1) 1) : Int32) = 0 → (o = (fun _ => .inr (12, K.1.1)) ∧ K' = kN K 99)))))
theorem b_P_run_0 {D : Nat} {o : cp_G → cp_O} {K' K : cp_K} {x1 : Int32} (w : wp_P_run_0 D o K' K x1) : JC (D + 8) m_P_run o K' 0 (fun G => [(0, .ref (cp_b G + 0)), (1, .int x1)]) (fun _ => []) K := by
  unfold wp_P_run_0 at w
  intro G H d n0 z0 hd
  show kV G H m_P_run d n0 z0 (o G) K' 0 [(0, .ref (cp_b G + 0)), (1, .int x1)] [] K
  refine kv_p (fun _ _ _ _ _ _ v => vv_aload_n (pc := 0) d_P_run_0 rfl v) ?_
  refine kw_gf (pc := 1) 3 d_P_run_1 fl_P_26 (Or.inl ⟨by decide, rfl⟩) rfl (by decide) ?_
  refine kv_p (fun _ _ _ _ _ _ v => vv_iload_n (pc := 4) d_P_run_4 rfl v) ?_
  refine kw_cv (pc := 5) (As := [.int x1]) (As0 := (fun G => [.ref (cp_b G + 3), .int x1])) d_P_run_5 (C_Dfind) rfl k_D_find ml_P_169 (Or.inl ⟨by decide, rfl⟩) (by omega) (Nat.le_of_ble_eq_true rfl) ?_
  refine kv_p (fun _ _ _ _ _ _ v => vv_astore_n (pc := 8) d_P_run_8 (cp_isr_rf (kr G (dfind K x1))) (Nat.le_of_ble_eq_true rfl) v) ?_
  refine kv_p (fun _ _ _ _ _ _ v => vv_aload_nr (pc := 9) d_P_run_9 (cp_isr_rf (kr G (dfind K x1))) rfl v) ?_
  refine kw_ifnull (pc := 10) (tgt := 20) d_P_run_10 rfl (fun hc => ?_) (fun hc => ?_)
  · replace w := w.1 hc
    obtain ⟨rfl, rfl⟩ := w
    exact kw_throw (pc := 20) (tx := "no program") d_P_run_20 d_P_run_23 d_P_run_24 d_P_run_26 d_P_run_29 cp_ok12 cl_P_176 rfl cp_thr12 (by decide) cp_fit12 (by omega) (Nat.le_of_ble_eq_true rfl) k_P_run.1 rfl (by decide)
  · replace w := w.2 hc
    refine kv_p (fun _ _ _ _ _ _ v => vv_aload_nr (pc := 13) d_P_run_13 (cp_isr_rf (kr G (dfind K x1))) rfl v) ?_
    obtain ⟨b1, w⟩ := w
    refine kw_giN (pc := 14) d_P_run_14 fl_P_173 b1 rfl rfl ?_
    by_cases hc : ((K.2.1 (dfind K x1) 1) : Int32) = 0
    · replace w := w.2 hc
      refine kv_p (fun _ _ _ _ _ _ v => vv_if_ne (pc := 17) (tgt := 30) d_P_run_17 rfl (fun hn => absurd hc hn) (fun _ => v)) ?_
      obtain ⟨rfl, rfl⟩ := w
      exact kw_throw (pc := 20) (tx := "no program") d_P_run_20 d_P_run_23 d_P_run_24 d_P_run_26 d_P_run_29 cp_ok12 cl_P_176 rfl cp_thr12 (by decide) cp_fit12 (by omega) (Nat.le_of_ble_eq_true rfl) k_P_run.1 rfl (by decide)
    · replace w := w.1 hc
      refine kv_p (fun _ _ _ _ _ _ v => vv_if_ne (pc := 17) (tgt := 30) d_P_run_17 rfl (fun _ => v) (fun hn => absurd hn hc)) ?_
      refine kv_p (fun _ _ _ _ _ _ v => vv_aload_n (pc := 30) d_P_run_30 rfl v) ?_
      obtain ⟨T2, c3, w⟩ := w
      refine kw_cv (pc := 31) (As := []) d_P_run_31 c3 rfl k_P_openText ml_P_90 (Or.inl ⟨by decide, rfl⟩) (by omega) (Nat.le_of_ble_eq_true rfl) ?_
      refine kv_p (fun _ _ _ _ _ _ v => vv_aload_n (pc := 34) d_P_run_34 rfl v) ?_
      refine kw_gf (pc := 35) 23 d_P_run_35 fl_P_56 (Or.inl ⟨by decide, rfl⟩) rfl (by decide) ?_
      refine kw_cv (pc := 38) (As := []) (As0 := (fun G => [.ref (cp_b G + 23)])) d_P_run_38 (C_UforgetSteps) rfl k_U_forgetSteps ml_P_120 (Or.inl ⟨by decide, rfl⟩) (by omega) (Nat.le_of_ble_eq_true rfl) ?_
      refine kv_p (fun _ _ _ _ _ _ v => vv_aload_n (pc := 41) d_P_run_41 rfl v) ?_
      refine kw_gf (pc := 42) 21 d_P_run_42 fl_P_47 (Or.inl ⟨by decide, rfl⟩) rfl (by decide) ?_
      obtain ⟨r6, T4, c5, w⟩ := w
      refine kw_cv (pc := 45) (As := []) d_P_run_45 c5 rfl k_Q_readTerms ml_P_181 (Or.inl ⟨by decide, rfl⟩) (by omega) (Nat.le_of_ble_eq_true rfl) ?_
      refine kv_p (fun _ _ _ _ _ _ v => vv_astore_n (pc := 48) d_P_run_48 (cp_isr_rf (kr G r6)) (Nat.le_of_ble_eq_true rfl) v) ?_
      refine kw_lv (lv := [(3, va_rf (kr G r6)), (2, va_rf (kr G (dfind K x1))), (0, .ref (cp_b G + 0)), (1, .int x1)]) (by cases kr G (dfind K x1) <;> rfl) ?_
      refine kv_p (fun _ _ _ _ _ _ v => vv_aload_nr (pc := 49) d_P_run_49 (cp_isr_rf (kr G r6)) rfl v) ?_
      refine kw_ifnonnull (pc := 50) (tgt := 58) d_P_run_50 rfl (fun hc => ?_) (fun hc => ?_)
      · replace w := w.1 hc
        refine kv_p (fun _ _ _ _ _ _ v => vv_aload_nr (pc := 58) d_P_run_58 (cp_isr_rf (kr G r6)) rfl v) ?_
        obtain ⟨b7, w⟩ := w
        refine kw_giN (pc := 59) d_P_run_59 fl_P_184 b7 rfl rfl ?_
        refine kv_p (fun _ _ _ _ _ _ v => vv_aload_nr (pc := 62) d_P_run_62 (cp_isr_rf (kr G (dfind K x1))) rfl v) ?_
        obtain ⟨b8, w⟩ := w
        refine kw_giN (pc := 63) d_P_run_63 fl_P_187 b8 rfl rfl ?_
        by_cases hc : ((T4.2.1 r6 3) : Int32) = (T4.2.1 (dfind K x1) 2)
        · replace w := w.1 hc
          refine kv_p (fun _ _ _ _ _ _ v => vv_icmp_eq (pc := 66) (tgt := 72) d_P_run_66 rfl (fun _ => v) (fun hn => absurd hc hn)) ?_
          refine kv_p (fun _ _ _ _ _ _ v => vv_aload_n (pc := 72) d_P_run_72 rfl v) ?_
          refine kw_gf (pc := 73) 24 d_P_run_73 fl_P_65 (Or.inl ⟨by decide, rfl⟩) rfl (by decide) ?_
          refine kv_p (fun _ _ _ _ _ _ v => vv_aload_nr (pc := 76) d_P_run_76 (cp_isr_rf (kr G r6)) rfl v) ?_
          obtain ⟨r11, T9, c10, w⟩ := w
          refine kw_cv (pc := 77) (As := [va_rf (kr G r6)]) d_P_run_77 c10 rfl k_T_wrongInArguments ml_P_190 (Or.inl ⟨by decide, rfl⟩) (by omega) (Nat.le_of_ble_eq_true rfl) ?_
          refine kv_p (fun _ _ _ _ _ _ v => vv_istore (pc := 80) d_P_run_80 (Nat.le_of_ble_eq_true rfl) v) ?_
          refine kw_lv (lv := [(4, .int r11), (3, va_rf (kr G r6)), (2, va_rf (kr G (dfind K x1))), (0, .ref (cp_b G + 0)), (1, .int x1)]) (by cases kr G r6 <;> rfl) ?_
          refine kv_p (fun _ _ _ _ _ _ v => vv_iload (pc := 82) d_P_run_82 rfl v) ?_
          refine kv_p (fun _ _ _ _ _ _ v => vv_iconst (pc := 84) (v := (-1)) d_P_run_84 rfl v) ?_
          by_cases hc : (r11 : Int32) = (-1)
          · replace w := w.1 hc
            refine kv_p (fun _ _ _ _ _ _ v => vv_icmp_eq (pc := 85) (tgt := 94) d_P_run_85 rfl (fun _ => v) (fun hn => absurd hc hn)) ?_
            refine kv_p (fun _ _ _ _ _ _ v => vv_aload_n (pc := 94) d_P_run_94 rfl v) ?_
            refine kw_gf (pc := 95) 23 d_P_run_95 fl_P_56 (Or.inl ⟨by decide, rfl⟩) rfl (by decide) ?_
            refine kv_p (fun _ _ _ _ _ _ v => vv_iload_n (pc := 98) d_P_run_98 rfl v) ?_
            refine kv_p (fun _ _ _ _ _ _ v => vv_iconst (pc := 99) (v := 0) d_P_run_99 rfl v) ?_
            obtain ⟨r14, T12, c13, w⟩ := w
            refine kw_cv (pc := 100) (As := [.int x1, .int 0]) d_P_run_100 c13 rfl k_U_carryOut ml_P_193 (Or.inl ⟨by decide, rfl⟩) (by omega) (Nat.le_of_ble_eq_true rfl) ?_
            refine kv_p (fun _ _ _ _ _ _ v => vv_istore (pc := 103) d_P_run_103 (Nat.le_of_ble_eq_true rfl) v) ?_
            refine kv_p (fun _ _ _ _ _ _ v => vv_iload (pc := 105) d_P_run_105 rfl v) ?_
            refine kv_p (fun _ _ _ _ _ _ v => vv_iconst (pc := 107) (v := (-1)) d_P_run_107 rfl v) ?_
            by_cases hc : (r14 : Int32) = (-1)
            · replace w := w.2 hc
              refine kv_p (fun _ _ _ _ _ _ v => vv_icmp_ne (pc := 108) (tgt := 115) d_P_run_108 rfl (fun hn => absurd hc hn) (fun _ => v)) ?_
              refine kv_p (fun _ _ _ _ _ _ v => vv_sipush (pc := 111) (v := (-300)) d_P_run_111 rfl v) ?_
              obtain ⟨rfl, rfl⟩ := w
              exact kv_e (fun _ _ => vv_iret (pc := 114) d_P_run_114 rfl)
            · replace w := w.1 hc
              refine kv_p (fun _ _ _ _ _ _ v => vv_icmp_ne (pc := 108) (tgt := 115) d_P_run_108 rfl (fun _ => v) (fun hn => absurd hn hc)) ?_
              refine kv_p (fun _ _ _ _ _ _ v => vv_aload_n (pc := 115) d_P_run_115 rfl v) ?_
              refine kv_p (fun _ _ _ _ _ _ v => vv_iload (pc := 116) d_P_run_116 rfl v) ?_
              obtain ⟨r17, T15, c16, w⟩ := w
              refine kw_cv (pc := 118) (As := [.int r14]) d_P_run_118 c16 rfl k_P_show ml_P_132 (Or.inl ⟨by decide, rfl⟩) (by omega) (Nat.le_of_ble_eq_true rfl) ?_
              by_cases hc : (r17 : Int32) = 0
              · replace w := w.1 hc
                refine kv_p (fun _ _ _ _ _ _ v => vv_if_eq (pc := 121) (tgt := 131) d_P_run_121 rfl (fun _ => v) (fun hn => absurd hc hn)) ?_
                refine kv_p (fun _ _ _ _ _ _ v => vv_sipush (pc := 131) (v := (-200)) d_P_run_131 rfl v) ?_
                obtain ⟨rfl, rfl⟩ := w
                exact kv_e (fun _ _ => vv_iret (pc := 134) d_P_run_134 rfl)
              · replace w := w.2 hc
                refine kv_p (fun _ _ _ _ _ _ v => vv_if_eq (pc := 121) (tgt := 131) d_P_run_121 rfl (fun hn => absurd hn hc) (fun _ => v)) ?_
                refine kv_p (fun _ _ _ _ _ _ v => vv_aload_n (pc := 124) d_P_run_124 rfl v) ?_
                refine kw_gi (pc := 125) d_P_run_125 fl_P_20 (Or.inl ⟨by decide, rfl⟩) rfl rfl ?_
                refine kv_p (fun _ _ _ _ _ _ v => vv_goto (pc := 128) (tgt := 134) d_P_run_128 rfl v) ?_
                obtain ⟨rfl, rfl⟩ := w
                exact kv_e (fun _ _ => vv_iret (pc := 134) d_P_run_134 rfl)
          · replace w := w.2 hc
            refine kv_p (fun _ _ _ _ _ _ v => vv_icmp_eq (pc := 85) (tgt := 94) d_P_run_85 rfl (fun hn => absurd hn hc) (fun _ => v)) ?_
            refine kv_p (fun _ _ _ _ _ _ v => vv_bipush (pc := 88) (v := (-100)) d_P_run_88 rfl v) ?_
            refine kv_p (fun _ _ _ _ _ _ v => vv_iload (pc := 90) d_P_run_90 rfl v) ?_
            refine kv_p (fun _ _ _ _ _ _ v => vv_isub (pc := 92) d_P_run_92 v) ?_
            obtain ⟨rfl, rfl⟩ := w
            exact kv_e (fun _ _ => vv_iret (pc := 93) d_P_run_93 rfl)
        · replace w := w.2 hc
          refine kv_p (fun _ _ _ _ _ _ v => vv_icmp_eq (pc := 66) (tgt := 72) d_P_run_66 rfl (fun hn => absurd hn hc) (fun _ => v)) ?_
          refine kv_p (fun _ _ _ _ _ _ v => vv_bipush (pc := 69) (v := (-100)) d_P_run_69 rfl v) ?_
          obtain ⟨rfl, rfl⟩ := w
          exact kv_e (fun _ _ => vv_iret (pc := 71) d_P_run_71 rfl)
      · replace w := w.2 hc
        refine kv_p (fun _ _ _ _ _ _ v => vv_aload_n (pc := 53) d_P_run_53 rfl v) ?_
        refine kw_cv (pc := 54) (As := []) (As0 := (fun G => [.ref (cp_b G + 0)])) d_P_run_54 (C_Pfault) rfl k_P_fault ml_P_97 (Or.inl ⟨by decide, rfl⟩) (by omega) (Nat.le_of_ble_eq_true rfl) ?_
        obtain ⟨rfl, rfl⟩ := w
        exact kv_e (fun _ _ => vv_iret (pc := 57) d_P_run_57 rfl)
theorem c_P_run {D : Nat} {o : cp_G → Option Value} {K' K : cp_K} {x1 : Int32} (w : wp_P_run_0 D (fun G => .inl (o G)) K' K x1) : KC (D + 8) m_P_run (fun G => [.ref (cp_b G + 0), .int x1]) K o K' := KC.of2 rfl (fun G => by exact ⟨Nat.le_of_ble_eq_true rfl, rfl⟩) (b_P_run_0 w)
theorem t_P_run {D ci i : Nat} {K' K : cp_K} {x1 : Int32} (w : wp_P_run_0 D (fun _ => .inr (ci, i)) K' K x1) : KT (D + 8) m_P_run (fun G => [.ref (cp_b G + 0), .int x1]) K ci i K' := KT.of2 rfl (fun G => by exact ⟨Nat.le_of_ble_eq_true rfl, rfl⟩) (b_P_run_0 w)
def wp_P_steps_0 (D : Nat) (o : cp_G → cp_O) (K' K : cp_K) : Prop := (o = (fun _ => .inl (some (.int (K.2.1 23 4)))) ∧ K' = K)
theorem b_P_steps_0 {D : Nat} {o : cp_G → cp_O} {K' K : cp_K} (w : wp_P_steps_0 D o K' K) : JC (D + 8) m_P_steps o K' 0 (fun G => [(0, .ref (cp_b G + 0))]) (fun _ => []) K := by
  unfold wp_P_steps_0 at w
  intro G H d n0 z0 hd
  show kV G H m_P_steps d n0 z0 (o G) K' 0 [(0, .ref (cp_b G + 0))] [] K
  refine kv_p (fun _ _ _ _ _ _ v => vv_aload_n (pc := 0) d_P_steps_0 rfl v) ?_
  refine kw_gf (pc := 1) 23 d_P_steps_1 fl_P_56 (Or.inl ⟨by decide, rfl⟩) rfl (by decide) ?_
  refine kw_cv (pc := 4) (As := []) (As0 := (fun G => [.ref (cp_b G + 23)])) d_P_steps_4 (C_UallSteps) rfl k_U_allSteps ml_P_197 (Or.inl ⟨by decide, rfl⟩) (by omega) (Nat.le_of_ble_eq_true rfl) ?_
  obtain ⟨rfl, rfl⟩ := w
  exact kv_e (fun _ _ => vv_iret (pc := 7) d_P_steps_7 rfl)
theorem c_P_steps {D : Nat} {o : cp_G → Option Value} {K' K : cp_K} (w : wp_P_steps_0 D (fun G => .inl (o G)) K' K) : KC (D + 8) m_P_steps (fun G => [.ref (cp_b G + 0)]) K o K' := KC.of2 rfl (fun G => by exact ⟨Nat.le_of_ble_eq_true rfl, rfl⟩) (b_P_steps_0 w)
def wp_P_kind_0 (D : Nat) (o : cp_G → cp_O) (K' K : cp_K) (x1 : Int32) : Prop := ((¬ (dfind K x1) = (0 : Nat) → nd K (dfind K x1) 10 ∧ ((((K.2.1 (dfind K x1) 1) : Int32) = 0 → (o = (fun _ => .inl (some (.int 1))) ∧ K' = K)) ∧ (¬ ((K.2.1 (dfind K x1) 1) : Int32) = 0 → (o = (fun _ => .inl (some (.int 2))) ∧ K' = K)))) ∧ ((dfind K x1) = (0 : Nat) → (o = (fun _ => .inl (some (.int 0))) ∧ K' = K)))
theorem b_P_kind_0 {D : Nat} {o : cp_G → cp_O} {K' K : cp_K} {x1 : Int32} (w : wp_P_kind_0 D o K' K x1) : JC (D + 8) m_P_kind o K' 0 (fun G => [(0, .ref (cp_b G + 0)), (1, .int x1)]) (fun _ => []) K := by
  unfold wp_P_kind_0 at w
  intro G H d n0 z0 hd
  show kV G H m_P_kind d n0 z0 (o G) K' 0 [(0, .ref (cp_b G + 0)), (1, .int x1)] [] K
  refine kv_p (fun _ _ _ _ _ _ v => vv_aload_n (pc := 0) d_P_kind_0 rfl v) ?_
  refine kw_gf (pc := 1) 3 d_P_kind_1 fl_P_26 (Or.inl ⟨by decide, rfl⟩) rfl (by decide) ?_
  refine kv_p (fun _ _ _ _ _ _ v => vv_iload_n (pc := 4) d_P_kind_4 rfl v) ?_
  refine kw_cv (pc := 5) (As := [.int x1]) (As0 := (fun G => [.ref (cp_b G + 3), .int x1])) d_P_kind_5 (C_Dfind) rfl k_D_find ml_P_169 (Or.inl ⟨by decide, rfl⟩) (by omega) (Nat.le_of_ble_eq_true rfl) ?_
  refine kv_p (fun _ _ _ _ _ _ v => vv_astore_n (pc := 8) d_P_kind_8 (cp_isr_rf (kr G (dfind K x1))) (Nat.le_of_ble_eq_true rfl) v) ?_
  refine kv_p (fun _ _ _ _ _ _ v => vv_aload_nr (pc := 9) d_P_kind_9 (cp_isr_rf (kr G (dfind K x1))) rfl v) ?_
  refine kw_ifnonnull (pc := 10) (tgt := 15) d_P_kind_10 rfl (fun hc => ?_) (fun hc => ?_)
  · replace w := w.1 hc
    refine kv_p (fun _ _ _ _ _ _ v => vv_aload_nr (pc := 15) d_P_kind_15 (cp_isr_rf (kr G (dfind K x1))) rfl v) ?_
    obtain ⟨b1, w⟩ := w
    refine kw_giN (pc := 16) d_P_kind_16 fl_P_173 b1 rfl rfl ?_
    by_cases hc : ((K.2.1 (dfind K x1) 1) : Int32) = 0
    · replace w := w.1 hc
      refine kv_p (fun _ _ _ _ _ _ v => vv_if_eq (pc := 19) (tgt := 26) d_P_kind_19 rfl (fun _ => v) (fun hn => absurd hc hn)) ?_
      refine kv_p (fun _ _ _ _ _ _ v => vv_iconst (pc := 26) (v := 1) d_P_kind_26 rfl v) ?_
      obtain ⟨rfl, rfl⟩ := w
      exact kv_e (fun _ _ => vv_iret (pc := 27) d_P_kind_27 rfl)
    · replace w := w.2 hc
      refine kv_p (fun _ _ _ _ _ _ v => vv_if_eq (pc := 19) (tgt := 26) d_P_kind_19 rfl (fun hn => absurd hn hc) (fun _ => v)) ?_
      refine kv_p (fun _ _ _ _ _ _ v => vv_iconst (pc := 22) (v := 2) d_P_kind_22 rfl v) ?_
      refine kv_p (fun _ _ _ _ _ _ v => vv_goto (pc := 23) (tgt := 27) d_P_kind_23 rfl v) ?_
      obtain ⟨rfl, rfl⟩ := w
      exact kv_e (fun _ _ => vv_iret (pc := 27) d_P_kind_27 rfl)
  · replace w := w.2 hc
    refine kv_p (fun _ _ _ _ _ _ v => vv_iconst (pc := 13) (v := 0) d_P_kind_13 rfl v) ?_
    obtain ⟨rfl, rfl⟩ := w
    exact kv_e (fun _ _ => vv_iret (pc := 14) d_P_kind_14 rfl)
theorem c_P_kind {D : Nat} {o : cp_G → Option Value} {K' K : cp_K} {x1 : Int32} (w : wp_P_kind_0 D (fun G => .inl (o G)) K' K x1) : KC (D + 8) m_P_kind (fun G => [.ref (cp_b G + 0), .int x1]) K o K' := KC.of2 rfl (fun G => by exact ⟨Nat.le_of_ble_eq_true rfl, rfl⟩) (b_P_kind_0 w)
def wp_P_parameters_0 (D : Nat) (o : cp_G → cp_O) (K' K : cp_K) (x1 : Int32) : Prop := ((¬ (dfind K x1) = (0 : Nat) → nd K (dfind K x1) 10 ∧ (o = (fun _ => .inl (some (.int (K.2.1 (dfind K x1) 2)))) ∧ K' = K)) ∧ ((dfind K x1) = (0 : Nat) → (o = (fun _ => .inl (some (.int (-1)))) ∧ K' = K)))
theorem b_P_parameters_0 {D : Nat} {o : cp_G → cp_O} {K' K : cp_K} {x1 : Int32} (w : wp_P_parameters_0 D o K' K x1) : JC (D + 8) m_P_parameters o K' 0 (fun G => [(0, .ref (cp_b G + 0)), (1, .int x1)]) (fun _ => []) K := by
  unfold wp_P_parameters_0 at w
  intro G H d n0 z0 hd
  show kV G H m_P_parameters d n0 z0 (o G) K' 0 [(0, .ref (cp_b G + 0)), (1, .int x1)] [] K
  refine kv_p (fun _ _ _ _ _ _ v => vv_aload_n (pc := 0) d_P_parameters_0 rfl v) ?_
  refine kw_gf (pc := 1) 3 d_P_parameters_1 fl_P_26 (Or.inl ⟨by decide, rfl⟩) rfl (by decide) ?_
  refine kv_p (fun _ _ _ _ _ _ v => vv_iload_n (pc := 4) d_P_parameters_4 rfl v) ?_
  refine kw_cv (pc := 5) (As := [.int x1]) (As0 := (fun G => [.ref (cp_b G + 3), .int x1])) d_P_parameters_5 (C_Dfind) rfl k_D_find ml_P_169 (Or.inl ⟨by decide, rfl⟩) (by omega) (Nat.le_of_ble_eq_true rfl) ?_
  refine kv_p (fun _ _ _ _ _ _ v => vv_astore_n (pc := 8) d_P_parameters_8 (cp_isr_rf (kr G (dfind K x1))) (Nat.le_of_ble_eq_true rfl) v) ?_
  refine kv_p (fun _ _ _ _ _ _ v => vv_aload_nr (pc := 9) d_P_parameters_9 (cp_isr_rf (kr G (dfind K x1))) rfl v) ?_
  refine kw_ifnonnull (pc := 10) (tgt := 17) d_P_parameters_10 rfl (fun hc => ?_) (fun hc => ?_)
  · replace w := w.1 hc
    refine kv_p (fun _ _ _ _ _ _ v => vv_aload_nr (pc := 17) d_P_parameters_17 (cp_isr_rf (kr G (dfind K x1))) rfl v) ?_
    obtain ⟨b1, w⟩ := w
    refine kw_giN (pc := 18) d_P_parameters_18 fl_P_187 b1 rfl rfl ?_
    obtain ⟨rfl, rfl⟩ := w
    exact kv_e (fun _ _ => vv_iret (pc := 21) d_P_parameters_21 rfl)
  · replace w := w.2 hc
    refine kv_p (fun _ _ _ _ _ _ v => vv_iconst (pc := 13) (v := (-1)) d_P_parameters_13 rfl v) ?_
    refine kv_p (fun _ _ _ _ _ _ v => vv_goto (pc := 14) (tgt := 21) d_P_parameters_14 rfl v) ?_
    obtain ⟨rfl, rfl⟩ := w
    exact kv_e (fun _ _ => vv_iret (pc := 21) d_P_parameters_21 rfl)
theorem c_P_parameters {D : Nat} {o : cp_G → Option Value} {K' K : cp_K} {x1 : Int32} (w : wp_P_parameters_0 D (fun G => .inl (o G)) K' K x1) : KC (D + 8) m_P_parameters (fun G => [.ref (cp_b G + 0), .int x1]) K o K' := KC.of2 rfl (fun G => by exact ⟨Nat.le_of_ble_eq_true rfl, rfl⟩) (b_P_parameters_0 w)
def wp_P_length_0 (D : Nat) (o : cp_G → cp_O) (K' K : cp_K) : Prop := (o = (fun _ => .inl (some (.int (K.2.1 0 3)))) ∧ K' = K)
theorem b_P_length_0 {D : Nat} {o : cp_G → cp_O} {K' K : cp_K} (w : wp_P_length_0 D o K' K) : JC (D + 8) m_P_length o K' 0 (fun G => [(0, .ref (cp_b G + 0))]) (fun _ => []) K := by
  unfold wp_P_length_0 at w
  intro G H d n0 z0 hd
  show kV G H m_P_length d n0 z0 (o G) K' 0 [(0, .ref (cp_b G + 0))] [] K
  refine kv_p (fun _ _ _ _ _ _ v => vv_aload_n (pc := 0) d_P_length_0 rfl v) ?_
  refine kw_gi (pc := 1) d_P_length_1 fl_P_20 (Or.inl ⟨by decide, rfl⟩) rfl rfl ?_
  obtain ⟨rfl, rfl⟩ := w
  exact kv_e (fun _ _ => vv_iret (pc := 4) d_P_length_4 rfl)
theorem c_P_length {D : Nat} {o : cp_G → Option Value} {K' K : cp_K} (w : wp_P_length_0 D (fun G => .inl (o G)) K' K) : KC (D + 8) m_P_length (fun G => [.ref (cp_b G + 0)]) K o K' := KC.of2 rfl (fun G => by exact ⟨Nat.le_of_ble_eq_true rfl, rfl⟩) (b_P_length_0 w)
def wp_P_charAt_0 (D : Nat) (o : cp_G → cp_O) (K' K : cp_K) (x1 : Int32) : Prop := (((x1 : Int32) < 0 → (o = (fun _ => .inl (some (.int 32))) ∧ K' = K ∧ narrow .char (.int 32) = .int 32)) ∧ (¬ (x1 : Int32) < 0 → (((K.2.1 0 3) ≤ (x1 : Int32) → (o = (fun _ => .inl (some (.int 32))) ∧ K' = K ∧ narrow .char (.int 32) = .int 32)) ∧ (¬ (K.2.1 0 3) ≤ (x1 : Int32) → vp_in x1 100 ∧ (o = (fun _ => .inl (some (.int (K.2.1 2 (Int32.toNatClampNeg x1))))) ∧ K' = K ∧ narrow .char (.int (K.2.1 2 (Int32.toNatClampNeg x1))) = .int (K.2.1 2 (Int32.toNatClampNeg x1)))))))
theorem b_P_charAt_0 {D : Nat} {o : cp_G → cp_O} {K' K : cp_K} {x1 : Int32} (w : wp_P_charAt_0 D o K' K x1) : JC (D + 8) m_P_charAt o K' 0 (fun G => [(0, .ref (cp_b G + 0)), (1, .int x1)]) (fun _ => []) K := by
  unfold wp_P_charAt_0 at w
  intro G H d n0 z0 hd
  show kV G H m_P_charAt d n0 z0 (o G) K' 0 [(0, .ref (cp_b G + 0)), (1, .int x1)] [] K
  refine kv_p (fun _ _ _ _ _ _ v => vv_iload_n (pc := 0) d_P_charAt_0 rfl v) ?_
  by_cases hc : (x1 : Int32) < 0
  · replace w := w.1 hc
    refine kv_p (fun _ _ _ _ _ _ v => vv_if_lt (pc := 1) (tgt := 21) d_P_charAt_1 rfl (fun _ => v) (fun hn => absurd hc hn)) ?_
    refine kv_p (fun _ _ _ _ _ _ v => vv_bipush (pc := 21) (v := 32) d_P_charAt_21 rfl v) ?_
    obtain ⟨rfl, rfl, hx⟩ := w
    exact kv_e (fun _ _ => vv_zret (pc := 23) d_P_charAt_23 rfl hx)
  · replace w := w.2 hc
    refine kv_p (fun _ _ _ _ _ _ v => vv_if_lt (pc := 1) (tgt := 21) d_P_charAt_1 rfl (fun hn => absurd hn hc) (fun _ => v)) ?_
    refine kv_p (fun _ _ _ _ _ _ v => vv_iload_n (pc := 4) d_P_charAt_4 rfl v) ?_
    refine kv_p (fun _ _ _ _ _ _ v => vv_aload_n (pc := 5) d_P_charAt_5 rfl v) ?_
    refine kw_gi (pc := 6) d_P_charAt_6 fl_P_20 (Or.inl ⟨by decide, rfl⟩) rfl rfl ?_
    by_cases hc : (K.2.1 0 3) ≤ (x1 : Int32)
    · replace w := w.1 hc
      refine kv_p (fun _ _ _ _ _ _ v => vv_icmp_ge (pc := 9) (tgt := 21) d_P_charAt_9 rfl (fun _ => v) (fun hn => absurd hc hn)) ?_
      refine kv_p (fun _ _ _ _ _ _ v => vv_bipush (pc := 21) (v := 32) d_P_charAt_21 rfl v) ?_
      obtain ⟨rfl, rfl, hx⟩ := w
      exact kv_e (fun _ _ => vv_zret (pc := 23) d_P_charAt_23 rfl hx)
    · replace w := w.2 hc
      refine kv_p (fun _ _ _ _ _ _ v => vv_icmp_ge (pc := 9) (tgt := 21) d_P_charAt_9 rfl (fun hn => absurd hn hc) (fun _ => v)) ?_
      refine kv_p (fun _ _ _ _ _ _ v => vv_aload_n (pc := 12) d_P_charAt_12 rfl v) ?_
      refine kw_gf (pc := 13) 2 d_P_charAt_13 fl_P_17 (Or.inl ⟨by decide, rfl⟩) rfl (by decide) ?_
      refine kv_p (fun _ _ _ _ _ _ v => vv_iload_n (pc := 16) d_P_charAt_16 rfl v) ?_
      obtain ⟨b1, w⟩ := w
      refine kw_cl (pc := 17) d_P_charAt_17 (by decide) b1 ?_
      refine kv_p (fun _ _ _ _ _ _ v => vv_goto (pc := 18) (tgt := 23) d_P_charAt_18 rfl v) ?_
      obtain ⟨rfl, rfl, hx⟩ := w
      exact kv_e (fun _ _ => vv_zret (pc := 23) d_P_charAt_23 rfl hx)
theorem c_P_charAt {D : Nat} {o : cp_G → Option Value} {K' K : cp_K} {x1 : Int32} (w : wp_P_charAt_0 D (fun G => .inl (o G)) K' K x1) : KC (D + 8) m_P_charAt (fun G => [.ref (cp_b G + 0), .int x1]) K o K' := KC.of2 rfl (fun G => by exact ⟨Nat.le_of_ble_eq_true rfl, rfl⟩) (b_P_charAt_0 w)
def wp_P_refuseUnlessFree_0 (D : Nat) (o : cp_G → cp_O) (K' K : cp_K) (x1 : Int32) : Prop := ((¬ ((if 65 ≤ x1 ∧ x1 ≤ 90 then 1 else 0) : Int32) = 0 → (((dfind K x1) = (0 : Nat) → (o = (fun _ => .inl none) ∧ K' = K)) ∧ (¬ (dfind K x1) = (0 : Nat) → (o = (fun _ => .inr (13, K.1.1)) ∧ K' = kN K 99)))) ∧ (((if 65 ≤ x1 ∧ x1 ≤ 90 then 1 else 0) : Int32) = 0 → (o = (fun _ => .inr (12, K.1.1)) ∧ K' = kN K 99)))
theorem b_P_refuseUnlessFree_0 {D : Nat} {o : cp_G → cp_O} {K' K : cp_K} {x1 : Int32} (w : wp_P_refuseUnlessFree_0 D o K' K x1) : JC (D + 8) m_P_refuseUnlessFree o K' 0 (fun G => [(0, .ref (cp_b G + 0)), (1, .int x1)]) (fun _ => []) K := by
  unfold wp_P_refuseUnlessFree_0 at w
  intro G H d n0 z0 hd
  show kV G H m_P_refuseUnlessFree d n0 z0 (o G) K' 0 [(0, .ref (cp_b G + 0)), (1, .int x1)] [] K
  refine kv_p (fun _ _ _ _ _ _ v => vv_iload_n (pc := 0) d_P_refuseUnlessFree_0 rfl v) ?_
  refine kw_cst (pc := 1) (As := [.int x1]) d_P_refuseUnlessFree_1 (SC_P_isLetter x1) k_P_isLetter ml_P_200 (by omega) (Nat.le_of_ble_eq_true rfl) ?_
  by_cases hc : ((if 65 ≤ x1 ∧ x1 ≤ 90 then 1 else 0) : Int32) = 0
  · replace w := w.2 hc
    refine kv_p (fun _ _ _ _ _ _ v => vv_if_ne (pc := 4) (tgt := 17) d_P_refuseUnlessFree_4 rfl (fun hn => absurd hc hn) (fun _ => v)) ?_
    obtain ⟨rfl, rfl⟩ := w
    exact kw_throw (pc := 7) (tx := "not a letter A .. Z") d_P_refuseUnlessFree_7 d_P_refuseUnlessFree_10 d_P_refuseUnlessFree_11 d_P_refuseUnlessFree_13 d_P_refuseUnlessFree_16 cp_ok12 cl_P_176 rfl cp_thr12 (by decide) cp_fit12 (by omega) (Nat.le_of_ble_eq_true rfl) k_P_refuseUnlessFree.1 rfl (by decide)
  · replace w := w.1 hc
    refine kv_p (fun _ _ _ _ _ _ v => vv_if_ne (pc := 4) (tgt := 17) d_P_refuseUnlessFree_4 rfl (fun _ => v) (fun hn => absurd hn hc)) ?_
    refine kv_p (fun _ _ _ _ _ _ v => vv_aload_n (pc := 17) d_P_refuseUnlessFree_17 rfl v) ?_
    refine kw_gf (pc := 18) 3 d_P_refuseUnlessFree_18 fl_P_26 (Or.inl ⟨by decide, rfl⟩) rfl (by decide) ?_
    refine kv_p (fun _ _ _ _ _ _ v => vv_iload_n (pc := 21) d_P_refuseUnlessFree_21 rfl v) ?_
    refine kw_cv (pc := 22) (As := [.int x1]) (As0 := (fun G => [.ref (cp_b G + 3), .int x1])) d_P_refuseUnlessFree_22 (C_Dfind) rfl k_D_find ml_P_169 (Or.inl ⟨by decide, rfl⟩) (by omega) (Nat.le_of_ble_eq_true rfl) ?_
    refine kw_ifnull (pc := 25) (tgt := 38) d_P_refuseUnlessFree_25 rfl (fun hc => ?_) (fun hc => ?_)
    · replace w := w.1 hc
      obtain ⟨rfl, rfl⟩ := w
      exact kv_e (fun _ _ => vv_vret (pc := 38) d_P_refuseUnlessFree_38 rfl)
    · replace w := w.2 hc
      obtain ⟨rfl, rfl⟩ := w
      exact kw_throw (pc := 28) (tx := "the letter stands for something") d_P_refuseUnlessFree_28 d_P_refuseUnlessFree_31 d_P_refuseUnlessFree_32 d_P_refuseUnlessFree_34 d_P_refuseUnlessFree_37 cp_ok13 cl_P_144 rfl cp_thr13 (by decide) cp_fit13 (by omega) (Nat.le_of_ble_eq_true rfl) k_P_refuseUnlessFree.1 rfl (by decide)
theorem c_P_refuseUnlessFree {D : Nat} {o : cp_G → Option Value} {K' K : cp_K} {x1 : Int32} (w : wp_P_refuseUnlessFree_0 D (fun G => .inl (o G)) K' K x1) : KC (D + 8) m_P_refuseUnlessFree (fun G => [.ref (cp_b G + 0), .int x1]) K o K' := KC.of2 rfl (fun G => by exact ⟨Nat.le_of_ble_eq_true rfl, rfl⟩) (b_P_refuseUnlessFree_0 w)
theorem t_P_refuseUnlessFree {D ci i : Nat} {K' K : cp_K} {x1 : Int32} (w : wp_P_refuseUnlessFree_0 D (fun _ => .inr (ci, i)) K' K x1) : KT (D + 8) m_P_refuseUnlessFree (fun G => [.ref (cp_b G + 0), .int x1]) K ci i K' := KT.of2 rfl (fun G => by exact ⟨Nat.le_of_ble_eq_true rfl, rfl⟩) (b_P_refuseUnlessFree_0 w)
def wp_P_openText_0 (D : Nat) (o : cp_G → cp_O) (K' K : cp_K) : Prop := (o = (fun _ => .inl none) ∧ K' = (bcut (kcut (kI (qopen K (K.2.1 0 1)) 0 1 0) 7 0) 0))
theorem b_P_openText_0 {D : Nat} {o : cp_G → cp_O} {K' K : cp_K} (w : wp_P_openText_0 D o K' K) : JC (D + 8) m_P_openText o K' 0 (fun G => [(0, .ref (cp_b G + 0))]) (fun _ => []) K := by
  unfold wp_P_openText_0 at w
  intro G H d n0 z0 hd
  show kV G H m_P_openText d n0 z0 (o G) K' 0 [(0, .ref (cp_b G + 0))] [] K
  refine kv_p (fun _ _ _ _ _ _ v => vv_aload_n (pc := 0) d_P_openText_0 rfl v) ?_
  refine kw_gf (pc := 1) 21 d_P_openText_1 fl_P_47 (Or.inl ⟨by decide, rfl⟩) rfl (by decide) ?_
  refine kv_p (fun _ _ _ _ _ _ v => vv_aload_n (pc := 4) d_P_openText_4 rfl v) ?_
  refine kw_gf (pc := 5) 1 d_P_openText_5 fl_P_9 (Or.inl ⟨by decide, rfl⟩) rfl (by decide) ?_
  refine kv_p (fun _ _ _ _ _ _ v => vv_aload_n (pc := 8) d_P_openText_8 rfl v) ?_
  refine kw_gi (pc := 9) d_P_openText_9 fl_P_13 (Or.inl ⟨by decide, rfl⟩) rfl rfl ?_
  refine kw_cv (pc := 12) (As := [.ref (cp_b G + 1), .int (K.2.1 0 1)]) (As0 := (fun G => [.ref (cp_b G + 21), .ref (cp_b G + 1), .int (K.2.1 0 1)])) d_P_openText_12 (C_Qopen) rfl k_Q_open ml_P_208 (Or.inl ⟨by decide, rfl⟩) (by omega) (Nat.le_of_ble_eq_true rfl) ?_
  refine kv_p (fun _ _ _ _ _ _ v => vv_aload_n (pc := 15) d_P_openText_15 rfl v) ?_
  refine kv_p (fun _ _ _ _ _ _ v => vv_iconst (pc := 16) (v := 0) d_P_openText_16 rfl v) ?_
  refine kw_pi (pc := 17) d_P_openText_17 fl_P_13 (Or.inl ⟨by decide, rfl⟩) rfl rfl rfl rfl rfl ?_
  refine kv_p (fun _ _ _ _ _ _ v => vv_aload_n (pc := 20) d_P_openText_20 rfl v) ?_
  refine kw_gf (pc := 21) 6 d_P_openText_21 fl_P_33 (Or.inl ⟨by decide, rfl⟩) rfl (by decide) ?_
  refine kw_cv (pc := 24) (As := []) (As0 := (fun G => [.ref (cp_b G + 6)])) d_P_openText_24 (C_Vclear) rfl k_V_clear ml_P_212 (Or.inl ⟨by decide, rfl⟩) (by omega) (Nat.le_of_ble_eq_true rfl) ?_
  refine kv_p (fun _ _ _ _ _ _ v => vv_aload_n (pc := 27) d_P_openText_27 rfl v) ?_
  refine kw_gf (pc := 28) 14 d_P_openText_28 fl_P_40 (Or.inl ⟨by decide, rfl⟩) rfl (by decide) ?_
  refine kv_p (fun _ _ _ _ _ _ v => vv_iconst (pc := 31) (v := 0) d_P_openText_31 rfl v) ?_
  refine kw_cv (pc := 32) (As := [.int 0]) (As0 := (fun G => [.ref (cp_b G + 14), .int 0])) d_P_openText_32 (C_Bcut) rfl k_B_cut ml_P_215 (Or.inl ⟨by decide, rfl⟩) (by omega) (Nat.le_of_ble_eq_true rfl) ?_
  obtain ⟨rfl, rfl⟩ := w
  exact kv_e (fun _ _ => vv_vret (pc := 35) d_P_openText_35 rfl)
theorem c_P_openText {D : Nat} {o : cp_G → Option Value} {K' K : cp_K} (w : wp_P_openText_0 D (fun G => .inl (o G)) K' K) : KC (D + 8) m_P_openText (fun G => [.ref (cp_b G + 0)]) K o K' := KC.of2 rfl (fun G => by exact ⟨Nat.le_of_ble_eq_true rfl, rfl⟩) (b_P_openText_0 w)
def wp_P_enter_0 (D : Nat) (o : cp_G → cp_O) (K' K : cp_K) (p1 : Nat) : Prop := ∃ T1, KC (D + 7) m_D_add (fun G => [.ref (cp_b G + 3), va_rf (kr G p1)]) K (fun _ => none) T1 ∧ nd T1 p1 10 ∧ (o = (fun _ => .inl (some (.int (T1.2.1 p1 2)))) ∧ K' = T1)
theorem b_P_enter_0 {D : Nat} {o : cp_G → cp_O} {K' K : cp_K} {p1 : Nat} (w : wp_P_enter_0 D o K' K p1) : JC (D + 8) m_P_enter o K' 0 (fun G => [(0, .ref (cp_b G + 0)), (1, va_rf (kr G p1))]) (fun _ => []) K := by
  unfold wp_P_enter_0 at w
  intro G H d n0 z0 hd
  show kV G H m_P_enter d n0 z0 (o G) K' 0 [(0, .ref (cp_b G + 0)), (1, va_rf (kr G p1))] [] K
  refine kv_p (fun _ _ _ _ _ _ v => vv_aload_n (pc := 0) d_P_enter_0 rfl v) ?_
  refine kw_gf (pc := 1) 3 d_P_enter_1 fl_P_26 (Or.inl ⟨by decide, rfl⟩) rfl (by decide) ?_
  refine kv_p (fun _ _ _ _ _ _ v => vv_aload_nr (pc := 4) d_P_enter_4 (cp_isr_rf (kr G p1)) rfl v) ?_
  obtain ⟨T1, c2, w⟩ := w
  refine kw_cv (pc := 5) (As := [va_rf (kr G p1)]) d_P_enter_5 c2 rfl k_D_add ml_P_222 (Or.inl ⟨by decide, rfl⟩) (by omega) (Nat.le_of_ble_eq_true rfl) ?_
  refine kv_p (fun _ _ _ _ _ _ v => vv_aload_nr (pc := 8) d_P_enter_8 (cp_isr_rf (kr G p1)) rfl v) ?_
  obtain ⟨b3, w⟩ := w
  refine kw_giN (pc := 9) d_P_enter_9 fl_P_187 b3 rfl rfl ?_
  obtain ⟨rfl, rfl⟩ := w
  exact kv_e (fun _ _ => vv_iret (pc := 12) d_P_enter_12 rfl)
theorem c_P_enter {D : Nat} {o : cp_G → Option Value} {K' K : cp_K} {p1 : Nat} (w : wp_P_enter_0 D (fun G => .inl (o G)) K' K p1) : KC (D + 8) m_P_enter (fun G => [.ref (cp_b G + 0), va_rf (kr G p1)]) K o K' := KC.of2 rfl (fun G => by cases kr G p1 <;> exact ⟨Nat.le_of_ble_eq_true rfl, rfl⟩) (b_P_enter_0 w)
def wp_P_show_0 (D : Nat) (o : cp_G → cp_O) (K' K : cp_K) (x1 : Int32) : Prop := ∃ r3 T1, KC (D + 7) m_V_write (fun G => [.ref (cp_b G + 6), .int x1]) K (fun _ => some (.int r3)) T1 ∧ (((r3 : Int32) ≤ 100 → JC (D + 8) m_P_show o K' 19 (fun G => [(0, .ref (cp_b G + 0)), (1, .int x1), (2, .int r3), (3, .int 0)]) (fun _ => []) T1) ∧ (¬ (r3 : Int32) ≤ 100 → (o = (fun _ => .inl (some (.int 0))) ∧ K' = T1)))
theorem b_P_show_0 {D : Nat} {o : cp_G → cp_O} {K' K : cp_K} {x1 : Int32} (w : wp_P_show_0 D o K' K x1) : JC (D + 8) m_P_show o K' 0 (fun G => [(0, .ref (cp_b G + 0)), (1, .int x1)]) (fun _ => []) K := by
  unfold wp_P_show_0 at w
  intro G H d n0 z0 hd
  show kV G H m_P_show d n0 z0 (o G) K' 0 [(0, .ref (cp_b G + 0)), (1, .int x1)] [] K
  refine kv_p (fun _ _ _ _ _ _ v => vv_aload_n (pc := 0) d_P_show_0 rfl v) ?_
  refine kw_gf (pc := 1) 6 d_P_show_1 fl_P_33 (Or.inl ⟨by decide, rfl⟩) rfl (by decide) ?_
  refine kv_p (fun _ _ _ _ _ _ v => vv_iload_n (pc := 4) d_P_show_4 rfl v) ?_
  obtain ⟨r3, T1, c2, w⟩ := w
  refine kw_cv (pc := 5) (As := [.int x1]) d_P_show_5 c2 rfl k_V_write ml_P_225 (Or.inl ⟨by decide, rfl⟩) (by omega) (Nat.le_of_ble_eq_true rfl) ?_
  refine kv_p (fun _ _ _ _ _ _ v => vv_istore_n (pc := 8) d_P_show_8 (Nat.le_of_ble_eq_true rfl) v) ?_
  refine kv_p (fun _ _ _ _ _ _ v => vv_iload_n (pc := 9) d_P_show_9 rfl v) ?_
  refine kv_p (fun _ _ _ _ _ _ v => vv_bipush (pc := 10) (v := 100) d_P_show_10 rfl v) ?_
  by_cases hc : (r3 : Int32) ≤ 100
  · replace w := w.1 hc
    refine kv_p (fun _ _ _ _ _ _ v => vv_icmp_le (pc := 12) (tgt := 17) d_P_show_12 rfl (fun _ => v) (fun hn => absurd hc hn)) ?_
    refine kv_p (fun _ _ _ _ _ _ v => vv_iconst (pc := 17) (v := 0) d_P_show_17 rfl v) ?_
    refine kv_p (fun _ _ _ _ _ _ v => vv_istore_n (pc := 18) d_P_show_18 (Nat.le_of_ble_eq_true rfl) v) ?_
    exact kw_sub [2, 3, 1, 0] rfl (w G H d n0 z0 hd)
  · replace w := w.2 hc
    refine kv_p (fun _ _ _ _ _ _ v => vv_icmp_le (pc := 12) (tgt := 17) d_P_show_12 rfl (fun hn => absurd hn hc) (fun _ => v)) ?_
    refine kv_p (fun _ _ _ _ _ _ v => vv_iconst (pc := 15) (v := 0) d_P_show_15 rfl v) ?_
    obtain ⟨rfl, rfl⟩ := w
    exact kv_e (fun _ _ => vv_zret (pc := 16) d_P_show_16 rfl rfl)
theorem c_P_show {D : Nat} {o : cp_G → Option Value} {K' K : cp_K} {x1 : Int32} (w : wp_P_show_0 D (fun G => .inl (o G)) K' K x1) : KC (D + 8) m_P_show (fun G => [.ref (cp_b G + 0), .int x1]) K o K' := KC.of2 rfl (fun G => by exact ⟨Nat.le_of_ble_eq_true rfl, rfl⟩) (b_P_show_0 w)
def wp_P_show_19 (D : Nat) (o : cp_G → cp_O) (K' K : cp_K) (x1 : Int32) (x2 : Int32) (x3 : Int32) : Prop := ((x2 ≤ (x3 : Int32) → (o = (fun _ => .inl (some (.int 1))) ∧ K' = (kI K 0 3 x2))) ∧ (¬ x2 ≤ (x3 : Int32) → ∃ r3 T1, KC (D + 7) m_V_written (fun G => [.ref (cp_b G + 6), .int x3]) K (fun _ => some (.int r3)) T1 ∧ vp_in x3 100 ∧ JC (D + 8) m_P_show o K' 19 (fun G => [(0, .ref (cp_b G + 0)), (1, .int x1), (2, .int x2), (3, .int (x3 + 1))]) (fun _ => []) (kI T1 2 (Int32.toNatClampNeg x3) (vp_nar .char r3))))
theorem b_P_show_19 {D : Nat} {o : cp_G → cp_O} {K' K : cp_K} {x1 : Int32} {x2 : Int32} {x3 : Int32} (w : wp_P_show_19 D o K' K x1 x2 x3) : JC (D + 8) m_P_show o K' 19 (fun G => [(0, .ref (cp_b G + 0)), (1, .int x1), (2, .int x2), (3, .int x3)]) (fun _ => []) K := by
  unfold wp_P_show_19 at w
  intro G H d n0 z0 hd
  show kV G H m_P_show d n0 z0 (o G) K' 19 [(0, .ref (cp_b G + 0)), (1, .int x1), (2, .int x2), (3, .int x3)] [] K
  refine kv_p (fun _ _ _ _ _ _ v => vv_iload_n (pc := 19) d_P_show_19 rfl v) ?_
  refine kv_p (fun _ _ _ _ _ _ v => vv_iload_n (pc := 20) d_P_show_20 rfl v) ?_
  by_cases hc : x2 ≤ (x3 : Int32)
  · replace w := w.1 hc
    refine kv_p (fun _ _ _ _ _ _ v => vv_icmp_ge (pc := 21) (tgt := 44) d_P_show_21 rfl (fun _ => v) (fun hn => absurd hc hn)) ?_
    refine kv_p (fun _ _ _ _ _ _ v => vv_aload_n (pc := 44) d_P_show_44 rfl v) ?_
    refine kv_p (fun _ _ _ _ _ _ v => vv_iload_n (pc := 45) d_P_show_45 rfl v) ?_
    refine kw_pi (pc := 46) d_P_show_46 fl_P_20 (Or.inl ⟨by decide, rfl⟩) rfl rfl rfl rfl rfl ?_
    refine kv_p (fun _ _ _ _ _ _ v => vv_iconst (pc := 49) (v := 1) d_P_show_49 rfl v) ?_
    obtain ⟨rfl, rfl⟩ := w
    exact kv_e (fun _ _ => vv_zret (pc := 50) d_P_show_50 rfl rfl)
  · replace w := w.2 hc
    refine kv_p (fun _ _ _ _ _ _ v => vv_icmp_ge (pc := 21) (tgt := 44) d_P_show_21 rfl (fun hn => absurd hn hc) (fun _ => v)) ?_
    refine kv_p (fun _ _ _ _ _ _ v => vv_aload_n (pc := 24) d_P_show_24 rfl v) ?_
    refine kw_gf (pc := 25) 2 d_P_show_25 fl_P_17 (Or.inl ⟨by decide, rfl⟩) rfl (by decide) ?_
    refine kv_p (fun _ _ _ _ _ _ v => vv_iload_n (pc := 28) d_P_show_28 rfl v) ?_
    refine kv_p (fun _ _ _ _ _ _ v => vv_aload_n (pc := 29) d_P_show_29 rfl v) ?_
    refine kw_gf (pc := 30) 6 d_P_show_30 fl_P_33 (Or.inl ⟨by decide, rfl⟩) rfl (by decide) ?_
    refine kv_p (fun _ _ _ _ _ _ v => vv_iload_n (pc := 33) d_P_show_33 rfl v) ?_
    obtain ⟨r3, T1, c2, w⟩ := w
    refine kw_cv (pc := 34) (As := [.int x3]) d_P_show_34 c2 rfl k_V_written ml_P_229 (Or.inl ⟨by decide, rfl⟩) (by omega) (Nat.le_of_ble_eq_true rfl) ?_
    obtain ⟨b4, w⟩ := w
    refine kw_cs (pc := 37) (len := 100) d_P_show_37 (by decide) b4 ?_
    refine kv_p (fun _ _ _ _ _ _ v => vv_iinc (pc := 38) (v := (x3 + 1)) d_P_show_38 rfl rfl (Nat.le_of_ble_eq_true rfl) v) ?_
    refine kv_p (fun _ _ _ _ _ _ v => vv_goto (pc := 41) (tgt := 19) d_P_show_41 rfl v) ?_
    exact kw_sub [1, 2, 3, 0] rfl (w G H d n0 z0 hd)
def wp_P_pageShowsHole_0 (D : Nat) (o : cp_G → cp_O) (K' K : cp_K) : Prop := JC (D + 8) m_P_pageShowsHole o K' 2 (fun G => [(0, .ref (cp_b G + 0)), (1, .int 0)]) (fun _ => []) K
theorem b_P_pageShowsHole_0 {D : Nat} {o : cp_G → cp_O} {K' K : cp_K} (w : wp_P_pageShowsHole_0 D o K' K) : JC (D + 8) m_P_pageShowsHole o K' 0 (fun G => [(0, .ref (cp_b G + 0))]) (fun _ => []) K := by
  unfold wp_P_pageShowsHole_0 at w
  intro G H d n0 z0 hd
  show kV G H m_P_pageShowsHole d n0 z0 (o G) K' 0 [(0, .ref (cp_b G + 0))] [] K
  refine kv_p (fun _ _ _ _ _ _ v => vv_iconst (pc := 0) (v := 0) d_P_pageShowsHole_0 rfl v) ?_
  refine kv_p (fun _ _ _ _ _ _ v => vv_istore_n (pc := 1) d_P_pageShowsHole_1 (Nat.le_of_ble_eq_true rfl) v) ?_
  exact kw_sub [1, 0] rfl (w G H d n0 z0 hd)
theorem c_P_pageShowsHole {D : Nat} {o : cp_G → Option Value} {K' K : cp_K} (w : wp_P_pageShowsHole_0 D (fun G => .inl (o G)) K' K) : KC (D + 8) m_P_pageShowsHole (fun G => [.ref (cp_b G + 0)]) K o K' := KC.of2 rfl (fun G => by exact ⟨Nat.le_of_ble_eq_true rfl, rfl⟩) (b_P_pageShowsHole_0 w)
def wp_P_pageShowsHole_2 (D : Nat) (o : cp_G → cp_O) (K' K : cp_K) (x1 : Int32) : Prop := (((K.2.1 0 3) ≤ (x1 : Int32) → (o = (fun _ => .inl (some (.int 0))) ∧ K' = K)) ∧ (¬ (K.2.1 0 3) ≤ (x1 : Int32) → vp_in x1 100 ∧ ((¬ ((K.2.1 2 (Int32.toNatClampNeg x1)) : Int32) = 95 → JC (D + 8) m_P_pageShowsHole o K' 2 (fun G => [(0, .ref (cp_b G + 0)), (1, .int (x1 + 1))]) (fun _ => []) K) ∧ (((K.2.1 2 (Int32.toNatClampNeg x1)) : Int32) = 95 → (o = (fun _ => .inl (some (.int 1))) ∧ K' = K)))))
theorem b_P_pageShowsHole_2 {D : Nat} {o : cp_G → cp_O} {K' K : cp_K} {x1 : Int32} (w : wp_P_pageShowsHole_2 D o K' K x1) : JC (D + 8) m_P_pageShowsHole o K' 2 (fun G => [(0, .ref (cp_b G + 0)), (1, .int x1)]) (fun _ => []) K := by
  unfold wp_P_pageShowsHole_2 at w
  intro G H d n0 z0 hd
  show kV G H m_P_pageShowsHole d n0 z0 (o G) K' 2 [(0, .ref (cp_b G + 0)), (1, .int x1)] [] K
  refine kv_p (fun _ _ _ _ _ _ v => vv_iload_n (pc := 2) d_P_pageShowsHole_2 rfl v) ?_
  refine kv_p (fun _ _ _ _ _ _ v => vv_aload_n (pc := 3) d_P_pageShowsHole_3 rfl v) ?_
  refine kw_gi (pc := 4) d_P_pageShowsHole_4 fl_P_20 (Or.inl ⟨by decide, rfl⟩) rfl rfl ?_
  by_cases hc : (K.2.1 0 3) ≤ (x1 : Int32)
  · replace w := w.1 hc
    refine kv_p (fun _ _ _ _ _ _ v => vv_icmp_ge (pc := 7) (tgt := 29) d_P_pageShowsHole_7 rfl (fun _ => v) (fun hn => absurd hc hn)) ?_
    refine kv_p (fun _ _ _ _ _ _ v => vv_iconst (pc := 29) (v := 0) d_P_pageShowsHole_29 rfl v) ?_
    obtain ⟨rfl, rfl⟩ := w
    exact kv_e (fun _ _ => vv_zret (pc := 30) d_P_pageShowsHole_30 rfl rfl)
  · replace w := w.2 hc
    refine kv_p (fun _ _ _ _ _ _ v => vv_icmp_ge (pc := 7) (tgt := 29) d_P_pageShowsHole_7 rfl (fun hn => absurd hn hc) (fun _ => v)) ?_
    refine kv_p (fun _ _ _ _ _ _ v => vv_aload_n (pc := 10) d_P_pageShowsHole_10 rfl v) ?_
    refine kw_gf (pc := 11) 2 d_P_pageShowsHole_11 fl_P_17 (Or.inl ⟨by decide, rfl⟩) rfl (by decide) ?_
    refine kv_p (fun _ _ _ _ _ _ v => vv_iload_n (pc := 14) d_P_pageShowsHole_14 rfl v) ?_
    obtain ⟨b1, w⟩ := w
    refine kw_cl (pc := 15) d_P_pageShowsHole_15 (by decide) b1 ?_
    refine kv_p (fun _ _ _ _ _ _ v => vv_bipush (pc := 16) (v := 95) d_P_pageShowsHole_16 rfl v) ?_
    by_cases hc : ((K.2.1 2 (Int32.toNatClampNeg x1)) : Int32) = 95
    · replace w := w.2 hc
      refine kv_p (fun _ _ _ _ _ _ v => vv_icmp_ne (pc := 18) (tgt := 23) d_P_pageShowsHole_18 rfl (fun hn => absurd hc hn) (fun _ => v)) ?_
      refine kv_p (fun _ _ _ _ _ _ v => vv_iconst (pc := 21) (v := 1) d_P_pageShowsHole_21 rfl v) ?_
      obtain ⟨rfl, rfl⟩ := w
      exact kv_e (fun _ _ => vv_zret (pc := 22) d_P_pageShowsHole_22 rfl rfl)
    · replace w := w.1 hc
      refine kv_p (fun _ _ _ _ _ _ v => vv_icmp_ne (pc := 18) (tgt := 23) d_P_pageShowsHole_18 rfl (fun _ => v) (fun hn => absurd hn hc)) ?_
      refine kv_p (fun _ _ _ _ _ _ v => vv_iinc (pc := 23) (v := (x1 + 1)) d_P_pageShowsHole_23 rfl rfl (Nat.le_of_ble_eq_true rfl) v) ?_
      refine kv_p (fun _ _ _ _ _ _ v => vv_goto (pc := 26) (tgt := 2) d_P_pageShowsHole_26 rfl v) ?_
      exact kw_sub [1, 0] rfl (w G H d n0 z0 hd)
