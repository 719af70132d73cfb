/-! ===== the third group (printed by cxc.py) ===== -/
theorem nd_qopen {K : cp_K} {p c : Nat} {x : Int32} (h : nd K p c) : nd (qopen K x) p c := h
theorem nd_tbegin {K : cp_K} {p c : Nat} {x : Int32} (h : nd K p c) : nd (tbegin K x) p c := h
def wp_Q_readTerm_0 (D : Nat) (o : cp_G → cp_O) (K' K : cp_K) : Prop := ∃ r3 T1, KC (D + 7) m_Q_piece (fun G => [.ref (cp_b G + 21), .int 1, .int 1]) K (fun G => some (va_rf (kr G r3))) T1 ∧ (o = (fun G => .inl (some (va_rf (kr G (if T1.2.1 21 2 = T1.2.1 21 1 then r3 else 0))))) ∧ K' = T1)
theorem b_Q_readTerm_0 {D : Nat} {o : cp_G → cp_O} {K' K : cp_K} (w : wp_Q_readTerm_0 D o K' K) : JC (D + 8) m_Q_readTerm o K' 0 (fun G => [(0, .ref (cp_b G + 21))]) (fun _ => []) K := by
  unfold wp_Q_readTerm_0 at w
  intro G H d n0 z0 hd
  show kV G H m_Q_readTerm d n0 z0 (o G) K' 0 [(0, .ref (cp_b G + 21))] [] K
  refine kv_p (fun _ _ _ _ _ _ v => vv_aload_n (pc := 0) d_Q_readTerm_0 rfl v) ?_
  refine kv_p (fun _ _ _ _ _ _ v => vv_aload_n (pc := 1) d_Q_readTerm_1 rfl v) ?_
  refine kv_p (fun _ _ _ _ _ _ v => vv_iconst (pc := 2) (v := 1) d_Q_readTerm_2 rfl v) ?_
  refine kv_p (fun _ _ _ _ _ _ v => vv_iconst (pc := 3) (v := 1) d_Q_readTerm_3 rfl v) ?_
  obtain ⟨r3, T1, c2, w⟩ := w
  refine kw_cv (pc := 4) (As := [.int 1, .int 1]) d_Q_readTerm_4 c2 rfl k_Q_piece ml_Q_28 (Or.inl ⟨by decide, rfl⟩) (by omega) (Nat.le_of_ble_eq_true rfl) ?_
  refine kw_cv (pc := 7) (As := [va_rf (kr G r3)]) (As0 := (fun G => [.ref (cp_b G + 21), va_rf (kr G r3)])) d_Q_readTerm_7 (C_Qwhole) rfl k_Q_whole ml_Q_32 (Or.inl ⟨by decide, rfl⟩) (by omega) (Nat.le_of_ble_eq_true rfl) ?_
  obtain ⟨rfl, rfl⟩ := w
  exact kv_e (fun _ _ => vv_aret (pc := 10) d_Q_readTerm_10 rfl (Or.inl ⟨_, rfl⟩) (cp_isr_rf _))
theorem c_Q_readTerm {D : Nat} {o : cp_G → Option Value} {K' K : cp_K} (w : wp_Q_readTerm_0 D (fun G => .inl (o G)) K' K) : KC (D + 8) m_Q_readTerm (fun G => [.ref (cp_b G + 21)]) K o K' := KC.of2 rfl (fun G => by exact ⟨Nat.le_of_ble_eq_true rfl, rfl⟩) (b_Q_readTerm_0 w)
def wp_Q_readTerms_0 (D : Nat) (o : cp_G → cp_O) (K' K : cp_K) : Prop := ∃ r4 T2, KC (D + 7) m_Q_readPieces (fun G => [.ref (cp_b G + 21), va_rf (kr G K.1.1), .int 2, .int 1, .int 0]) (ninit (kN K 9) K.1.1 17 0 0) (fun _ => some (.int r4)) T2 ∧ (((r4 : Int32) = 0 → (o = (fun G => .inl (some (va_rf (kr G (if T2.2.1 21 2 = T2.2.1 21 1 then 0 else 0))))) ∧ K' = T2)) ∧ (¬ (r4 : Int32) = 0 → (o = (fun G => .inl (some (va_rf (kr G (if T2.2.1 21 2 = T2.2.1 21 1 then K.1.1 else 0))))) ∧ K' = T2)))
theorem b_Q_readTerms_0 {D : Nat} {o : cp_G → cp_O} {K' K : cp_K} (w : wp_Q_readTerms_0 D o K' K) : JC (D + 8) m_Q_readTerms o K' 0 (fun G => [(0, .ref (cp_b G + 21))]) (fun _ => []) K := by
  unfold wp_Q_readTerms_0 at w
  intro G H d n0 z0 hd
  show kV G H m_Q_readTerms d n0 z0 (o G) K' 0 [(0, .ref (cp_b G + 21))] [] K
  refine kv_86 (fun h1 => ?_)
  refine kw_new (pc := 0) (N := 7) d_Q_readTerms_0 cp_ok9 cl_Q_36 rfl (by decide) kdef9 ?_
  refine kv_p (fun _ _ _ _ _ _ v => vv_dup (pc := 3) d_Q_readTerms_3 (kr_cat _) v) ?_
  refine kv_p (fun _ _ _ _ _ _ v => vv_bipush (pc := 4) (v := 17) d_Q_readTerms_4 rfl v) ?_
  refine kv_p (fun _ _ _ _ _ _ v => vv_iconst (pc := 6) (v := 0) d_Q_readTerms_6 rfl v) ?_
  refine kv_p (fun _ _ _ _ _ _ v => vv_iconst (pc := 7) (v := 0) d_Q_readTerms_7 rfl v) ?_
  refine kw_ci (pc := 8) (As := [.int 17, .int 0, .int 0]) (As0 := (fun G => [va_rf (kr G K.1.1), .int 17, .int 0, .int 0])) d_Q_readTerms_8 (C_Ninit (nd_self h1)) rfl k_N_init ml_Q_38 (nd_self h1) (by omega) (by cases kr G K.1.1 <;> exact Nat.le_of_ble_eq_true rfl) ?_
  refine kv_p (fun _ _ _ _ _ _ v => vv_astore_n (pc := 11) d_Q_readTerms_11 (cp_isr_rf (kr G K.1.1)) (Nat.le_of_ble_eq_true rfl) v) ?_
  refine kv_p (fun _ _ _ _ _ _ v => vv_aload_n (pc := 12) d_Q_readTerms_12 rfl v) ?_
  refine kv_p (fun _ _ _ _ _ _ v => vv_aload_n (pc := 13) d_Q_readTerms_13 rfl v) ?_
  refine kv_p (fun _ _ _ _ _ _ v => vv_aload_nr (pc := 14) d_Q_readTerms_14 (cp_isr_rf (kr G K.1.1)) rfl v) ?_
  refine kv_p (fun _ _ _ _ _ _ v => vv_iconst (pc := 15) (v := 2) d_Q_readTerms_15 rfl v) ?_
  refine kv_p (fun _ _ _ _ _ _ v => vv_iconst (pc := 16) (v := 1) d_Q_readTerms_16 rfl v) ?_
  refine kv_p (fun _ _ _ _ _ _ v => vv_iconst (pc := 17) (v := 0) d_Q_readTerms_17 rfl v) ?_
  obtain ⟨r4, T2, c3, w⟩ := w
  refine kw_cv (pc := 18) (As := [va_rf (kr G K.1.1), .int 2, .int 1, .int 0]) d_Q_readTerms_18 c3 rfl k_Q_readPieces ml_Q_41 (Or.inl ⟨by decide, rfl⟩) (by omega) (Nat.le_of_ble_eq_true rfl) ?_
  by_cases hc : (r4 : Int32) = 0
  · replace w := w.1 hc
    refine kv_p (fun _ _ _ _ _ _ v => vv_if_eq (pc := 21) (tgt := 28) d_Q_readTerms_21 rfl (fun _ => v) (fun hn => absurd hc hn)) ?_
    refine kw_null (pc := 28) d_Q_readTerms_28 ?_
    refine kw_cv (pc := 29) (As := [va_rf (kr G 0)]) (As0 := (fun G => [.ref (cp_b G + 21), va_rf (kr G 0)])) d_Q_readTerms_29 (C_Qwhole) rfl k_Q_whole ml_Q_32 (Or.inl ⟨by decide, rfl⟩) (by omega) (Nat.le_of_ble_eq_true rfl) ?_
    obtain ⟨rfl, rfl⟩ := w
    exact kv_e (fun _ _ => vv_aret (pc := 32) d_Q_readTerms_32 rfl (Or.inl ⟨_, rfl⟩) (cp_isr_rf _))
  · replace w := w.2 hc
    refine kv_p (fun _ _ _ _ _ _ v => vv_if_eq (pc := 21) (tgt := 28) d_Q_readTerms_21 rfl (fun hn => absurd hn hc) (fun _ => v)) ?_
    refine kv_p (fun _ _ _ _ _ _ v => vv_aload_nr (pc := 24) d_Q_readTerms_24 (cp_isr_rf (kr G K.1.1)) rfl v) ?_
    refine kv_p (fun _ _ _ _ _ _ v => vv_goto (pc := 25) (tgt := 29) d_Q_readTerms_25 rfl v) ?_
    refine kw_cv (pc := 29) (As := [va_rf (kr G K.1.1)]) (As0 := (fun G => [.ref (cp_b G + 21), va_rf (kr G K.1.1)])) d_Q_readTerms_29 (C_Qwhole) rfl k_Q_whole ml_Q_32 (Or.inl ⟨by decide, rfl⟩) (by omega) (Nat.le_of_ble_eq_true rfl) ?_
    obtain ⟨rfl, rfl⟩ := w
    exact kv_e (fun _ _ => vv_aret (pc := 32) d_Q_readTerms_32 rfl (Or.inl ⟨_, rfl⟩) (cp_isr_rf _))
theorem c_Q_readTerms {D : Nat} {o : cp_G → Option Value} {K' K : cp_K} (w : wp_Q_readTerms_0 D (fun G => .inl (o G)) K' K) : KC (D + 8) m_Q_readTerms (fun G => [.ref (cp_b G + 21)]) K o K' := KC.of2 rfl (fun G => by exact ⟨Nat.le_of_ble_eq_true rfl, rfl⟩) (b_Q_readTerms_0 w)
def wp_Q_readDeclaration_0 (D : Nat) (o : cp_G → cp_O) (K' K : cp_K) : Prop := ∃ r4 T2, KC (D + 7) m_Q_readParts (fun G => [.ref (cp_b G + 21), va_rf (kr G K.1.1)]) (ninit (kN K 9) K.1.1 17 0 0) (fun _ => some (.int r4)) T2 ∧ ((¬ (r4 : Int32) = 0 → nd T2 K.1.1 9 ∧ (¬ (ninit (kN T2 9) T2.1.1 16 0 ((kN T2 9).2.1 21 2)).2.2.1 K.1.1 5 = 0 → nd (ninit (kN T2 9) T2.1.1 16 0 ((kN T2 9).2.1 21 2)) ((ninit (kN T2 9) T2.1.1 16 0 ((kN T2 9).2.1 21 2)).2.2.1 K.1.1 5) 9) ∧ qok (kN T2 9) ∧ ((¬ ((qpk (nadd (ninit (kN T2 9) T2.1.1 16 0 ((kN T2 9).2.1 21 2)) K.1.1 T2.1.1)) : Int32) = 42 → ∃ r11 T9, KC (D + 7) m_Q_withPiece (fun G => [.ref (cp_b G + 21), va_rf (kr G T2.1.1), .int 2, .int 1]) (nadd (ninit (kN T2 9) T2.1.1 16 0 ((kN T2 9).2.1 21 2)) K.1.1 T2.1.1) (fun G => some (va_rf (kr G r11))) T9 ∧ ((¬ r11 = (0 : Nat) → (o = (fun G => .inl (some (va_rf (kr G (if T9.2.1 21 2 = T9.2.1 21 1 then K.1.1 else 0))))) ∧ K' = T9)) ∧ (r11 = (0 : Nat) → (o = (fun G => .inl (some (va_rf (kr G (if T9.2.1 21 2 = T9.2.1 21 1 then 0 else 0))))) ∧ K' = T9)))) ∧ (((qpk (nadd (ninit (kN T2 9) T2.1.1 16 0 ((kN T2 9).2.1 21 2)) K.1.1 T2.1.1)) : Int32) = 42 → (¬ (qlf (nadd (ninit (kN T2 9) T2.1.1 16 0 ((kN T2 9).2.1 21 2)) K.1.1 T2.1.1) 3 0).2.2.1 T2.1.1 5 = 0 → nd (qlf (nadd (ninit (kN T2 9) T2.1.1 16 0 ((kN T2 9).2.1 21 2)) K.1.1 T2.1.1) 3 0) ((qlf (nadd (ninit (kN T2 9) T2.1.1 16 0 ((kN T2 9).2.1 21 2)) K.1.1 T2.1.1) 3 0).2.2.1 T2.1.1 5) 9) ∧ (o = (fun G => .inl (some (va_rf (kr G (if (nadd (qlf (nadd (ninit (kN T2 9) T2.1.1 16 0 ((kN T2 9).2.1 21 2)) K.1.1 T2.1.1) 3 0) T2.1.1 (nadd (ninit (kN T2 9) T2.1.1 16 0 ((kN T2 9).2.1 21 2)) K.1.1 T2.1.1).1.1).2.1 21 2 = (nadd (qlf (nadd (ninit (kN T2 9) T2.1.1 16 0 ((kN T2 9).2.1 21 2)) K.1.1 T2.1.1) 3 0) T2.1.1 (nadd (ninit (kN T2 9) T2.1.1 16 0 ((kN T2 9).2.1 21 2)) K.1.1 T2.1.1).1.1).2.1 21 1 then K.1.1 else 0))))) ∧ K' = (nadd (qlf (nadd (ninit (kN T2 9) T2.1.1 16 0 ((kN T2 9).2.1 21 2)) K.1.1 T2.1.1) 3 0) T2.1.1 (nadd (ninit (kN T2 9) T2.1.1 16 0 ((kN T2 9).2.1 21 2)) K.1.1 T2.1.1).1.1))))) ∧ ((r4 : Int32) = 0 → (o = (fun G => .inl (some (va_rf (kr G 0)))) ∧ K' = T2)))
theorem b_Q_readDeclaration_0 {D : Nat} {o : cp_G → cp_O} {K' K : cp_K} (w : wp_Q_readDeclaration_0 D o K' K) : JC (D + 8) m_Q_readDeclaration o K' 0 (fun G => [(0, .ref (cp_b G + 21))]) (fun _ => []) K := by
  unfold wp_Q_readDeclaration_0 at w
  intro G H d n0 z0 hd
  show kV G H m_Q_readDeclaration d n0 z0 (o G) K' 0 [(0, .ref (cp_b G + 21))] [] K
  refine kv_86 (fun h1 => ?_)
  refine kw_new (pc := 0) (N := 7) d_Q_readDeclaration_0 cp_ok9 cl_Q_36 rfl (by decide) kdef9 ?_
  refine kv_p (fun _ _ _ _ _ _ v => vv_dup (pc := 3) d_Q_readDeclaration_3 (kr_cat _) v) ?_
  refine kv_p (fun _ _ _ _ _ _ v => vv_bipush (pc := 4) (v := 17) d_Q_readDeclaration_4 rfl v) ?_
  refine kv_p (fun _ _ _ _ _ _ v => vv_iconst (pc := 6) (v := 0) d_Q_readDeclaration_6 rfl v) ?_
  refine kv_p (fun _ _ _ _ _ _ v => vv_iconst (pc := 7) (v := 0) d_Q_readDeclaration_7 rfl v) ?_
  refine kw_ci (pc := 8) (As := [.int 17, .int 0, .int 0]) (As0 := (fun G => [va_rf (kr G K.1.1), .int 17, .int 0, .int 0])) d_Q_readDeclaration_8 (C_Ninit (nd_self h1)) rfl k_N_init ml_Q_38 (nd_self h1) (by omega) (by cases kr G K.1.1 <;> exact Nat.le_of_ble_eq_true rfl) ?_
  refine kv_p (fun _ _ _ _ _ _ v => vv_astore_n (pc := 11) d_Q_readDeclaration_11 (cp_isr_rf (kr G K.1.1)) (Nat.le_of_ble_eq_true rfl) v) ?_
  refine kv_p (fun _ _ _ _ _ _ v => vv_aload_n (pc := 12) d_Q_readDeclaration_12 rfl v) ?_
  refine kv_p (fun _ _ _ _ _ _ v => vv_aload_nr (pc := 13) d_Q_readDeclaration_13 (cp_isr_rf (kr G K.1.1)) rfl v) ?_
  obtain ⟨r4, T2, c3, w⟩ := w
  refine kw_cv (pc := 14) (As := [va_rf (kr G K.1.1)]) d_Q_readDeclaration_14 c3 rfl k_Q_readParts ml_Q_45 (Or.inl ⟨by decide, rfl⟩) (by omega) (Nat.le_of_ble_eq_true rfl) ?_
  by_cases hc : (r4 : Int32) = 0
  · replace w := w.2 hc
    refine kv_p (fun _ _ _ _ _ _ v => vv_if_ne (pc := 17) (tgt := 22) d_Q_readDeclaration_17 rfl (fun hn => absurd hc hn) (fun _ => v)) ?_
    refine kw_null (pc := 20) d_Q_readDeclaration_20 ?_
    obtain ⟨rfl, rfl⟩ := w
    exact kv_e (fun _ _ => vv_aret (pc := 21) d_Q_readDeclaration_21 rfl (Or.inl ⟨_, rfl⟩) (cp_isr_rf _))
  · replace w := w.1 hc
    refine kv_p (fun _ _ _ _ _ _ v => vv_if_ne (pc := 17) (tgt := 22) d_Q_readDeclaration_17 rfl (fun _ => v) (fun hn => absurd hn hc)) ?_
    refine kv_86 (fun h5 => ?_)
    refine kw_new (pc := 22) (N := 7) d_Q_readDeclaration_22 cp_ok9 cl_Q_36 rfl (by decide) kdef9 ?_
    refine kv_p (fun _ _ _ _ _ _ v => vv_dup (pc := 25) d_Q_readDeclaration_25 (kr_cat _) v) ?_
    refine kv_p (fun _ _ _ _ _ _ v => vv_bipush (pc := 26) (v := 16) d_Q_readDeclaration_26 rfl v) ?_
    refine kv_p (fun _ _ _ _ _ _ v => vv_iconst (pc := 28) (v := 0) d_Q_readDeclaration_28 rfl v) ?_
    refine kv_p (fun _ _ _ _ _ _ v => vv_aload_n (pc := 29) d_Q_readDeclaration_29 rfl v) ?_
    refine kw_gi (pc := 30) d_Q_readDeclaration_30 fl_Q_19 (Or.inl ⟨by decide, rfl⟩) rfl rfl ?_
    refine kw_ci (pc := 33) (As := [.int 16, .int 0, .int ((kN T2 9).2.1 21 2)]) (As0 := (fun G => [va_rf (kr G T2.1.1), .int 16, .int 0, .int ((kN T2 9).2.1 21 2)])) d_Q_readDeclaration_33 (C_Ninit (nd_self h5)) rfl k_N_init ml_Q_38 (nd_self h5) (by omega) (by cases kr G T2.1.1 <;> exact Nat.le_of_ble_eq_true rfl) ?_
    refine kv_p (fun _ _ _ _ _ _ v => vv_astore_n (pc := 36) d_Q_readDeclaration_36 (cp_isr_rf (kr G T2.1.1)) (Nat.le_of_ble_eq_true rfl) v) ?_
    refine kw_lv (lv := [(2, va_rf (kr G T2.1.1)), (1, va_rf (kr G K.1.1)), (0, .ref (cp_b G + 21))]) (by cases kr G K.1.1 <;> rfl) ?_
    refine kv_p (fun _ _ _ _ _ _ v => vv_aload_nr (pc := 37) d_Q_readDeclaration_37 (cp_isr_rf (kr G K.1.1)) rfl v) ?_
    refine kv_p (fun _ _ _ _ _ _ v => vv_aload_nr (pc := 38) d_Q_readDeclaration_38 (cp_isr_rf (kr G T2.1.1)) rfl v) ?_
    obtain ⟨b6, w⟩ := w
    obtain ⟨b7, w⟩ := w
    refine kw_cn (pc := 39) (As := [va_rf (kr G T2.1.1)]) (As0 := (fun G => [va_rf (kr G K.1.1), va_rf (kr G T2.1.1)])) d_Q_readDeclaration_39 (C_Nadd (nd_ninit (nd_new b6)) b7) rfl k_N_add ml_Q_49 (nd_ninit (nd_new b6)) (by omega) (Nat.le_of_ble_eq_true rfl) ?_
    refine kv_p (fun _ _ _ _ _ _ v => vv_aload_n (pc := 42) d_Q_readDeclaration_42 rfl v) ?_
    obtain ⟨b8, w⟩ := w
    refine kw_cv (pc := 43) (As := []) (As0 := (fun G => [.ref (cp_b G + 21)])) d_Q_readDeclaration_43 (C_Qpeek (qok_nadd (qok_ninit b8 (nd_self h5)) (nd_ninit (nd_new b6)) b7)) rfl k_Q_peek ml_Q_53 (Or.inl ⟨by decide, rfl⟩) (by omega) (Nat.le_of_ble_eq_true rfl) ?_
    refine kv_p (fun _ _ _ _ _ _ v => vv_bipush (pc := 46) (v := 42) d_Q_readDeclaration_46 rfl v) ?_
    by_cases hc : ((qpk (nadd (ninit (kN T2 9) T2.1.1 16 0 ((kN T2 9).2.1 21 2)) K.1.1 T2.1.1)) : Int32) = 42
    · replace w := w.2 hc
      refine kv_p (fun _ _ _ _ _ _ v => vv_icmp_ne (pc := 48) (tgt := 67) d_Q_readDeclaration_48 rfl (fun hn => absurd hc hn) (fun _ => v)) ?_
      refine kv_p (fun _ _ _ _ _ _ v => vv_aload_nr (pc := 51) d_Q_readDeclaration_51 (cp_isr_rf (kr G T2.1.1)) rfl v) ?_
      refine kv_p (fun _ _ _ _ _ _ v => vv_aload_n (pc := 52) d_Q_readDeclaration_52 rfl v) ?_
      refine kv_p (fun _ _ _ _ _ _ v => vv_iconst (pc := 53) (v := 3) d_Q_readDeclaration_53 rfl v) ?_
      refine kv_p (fun _ _ _ _ _ _ v => vv_iconst (pc := 54) (v := 0) d_Q_readDeclaration_54 rfl v) ?_
      refine kv_86 (fun h12 => ?_)
      refine kw_cv (pc := 55) (As := [.int 3, .int 0]) (As0 := (fun G => [.ref (cp_b G + 21), .int 3, .int 0])) d_Q_readDeclaration_55 (C_Qleaf h12) rfl k_Q_leaf ml_Q_57 (Or.inl ⟨by decide, rfl⟩) (by omega) (by cases kr G T2.1.1 <;> exact Nat.le_of_ble_eq_true rfl) ?_
      obtain ⟨b13, w⟩ := w
      refine kw_cn (pc := 58) (As := [va_rf (kr G (nadd (ninit (kN T2 9) T2.1.1 16 0 ((kN T2 9).2.1 21 2)) K.1.1 T2.1.1).1.1)]) (As0 := (fun G => [va_rf (kr G T2.1.1), va_rf (kr G (nadd (ninit (kN T2 9) T2.1.1 16 0 ((kN T2 9).2.1 21 2)) K.1.1 T2.1.1).1.1)])) d_Q_readDeclaration_58 (C_Nadd (nd_qlf (nd_nadd (nd_ninit (nd_self h5)))) b13) rfl k_N_add ml_Q_49 (nd_qlf (nd_nadd (nd_ninit (nd_self h5)))) (by omega) (Nat.le_of_ble_eq_true rfl) ?_
      refine kv_p (fun _ _ _ _ _ _ v => vv_aload_n (pc := 61) d_Q_readDeclaration_61 rfl v) ?_
      refine kv_p (fun _ _ _ _ _ _ v => vv_aload_nr (pc := 62) d_Q_readDeclaration_62 (cp_isr_rf (kr G K.1.1)) rfl v) ?_
      refine kw_cv (pc := 63) (As := [va_rf (kr G K.1.1)]) (As0 := (fun G => [.ref (cp_b G + 21), va_rf (kr G K.1.1)])) d_Q_readDeclaration_63 (C_Qwhole) rfl k_Q_whole ml_Q_32 (Or.inl ⟨by decide, rfl⟩) (by omega) (Nat.le_of_ble_eq_true rfl) ?_
      obtain ⟨rfl, rfl⟩ := w
      exact kv_e (fun _ _ => vv_aret (pc := 66) d_Q_readDeclaration_66 rfl (Or.inl ⟨_, rfl⟩) (cp_isr_rf _))
    · replace w := w.1 hc
      refine kv_p (fun _ _ _ _ _ _ v => vv_icmp_ne (pc := 48) (tgt := 67) d_Q_readDeclaration_48 rfl (fun _ => v) (fun hn => absurd hn hc)) ?_
      refine kv_p (fun _ _ _ _ _ _ v => vv_aload_n (pc := 67) d_Q_readDeclaration_67 rfl v) ?_
      refine kv_p (fun _ _ _ _ _ _ v => vv_aload_n (pc := 68) d_Q_readDeclaration_68 rfl v) ?_
      refine kv_p (fun _ _ _ _ _ _ v => vv_aload_nr (pc := 69) d_Q_readDeclaration_69 (cp_isr_rf (kr G T2.1.1)) rfl v) ?_
      refine kv_p (fun _ _ _ _ _ _ v => vv_iconst (pc := 70) (v := 2) d_Q_readDeclaration_70 rfl v) ?_
      refine kv_p (fun _ _ _ _ _ _ v => vv_iconst (pc := 71) (v := 1) d_Q_readDeclaration_71 rfl v) ?_
      obtain ⟨r11, T9, c10, w⟩ := w
      refine kw_cv (pc := 72) (As := [va_rf (kr G T2.1.1), .int 2, .int 1]) d_Q_readDeclaration_72 c10 rfl k_Q_withPiece ml_Q_60 (Or.inl ⟨by decide, rfl⟩) (by omega) (Nat.le_of_ble_eq_true rfl) ?_
      refine kw_ifnonnull (pc := 75) (tgt := 82) d_Q_readDeclaration_75 rfl (fun hc => ?_) (fun hc => ?_)
      · replace w := w.1 hc
        refine kv_p (fun _ _ _ _ _ _ v => vv_aload_nr (pc := 82) d_Q_readDeclaration_82 (cp_isr_rf (kr G K.1.1)) rfl v) ?_
        refine kw_cv (pc := 83) (As := [va_rf (kr G K.1.1)]) (As0 := (fun G => [.ref (cp_b G + 21), va_rf (kr G K.1.1)])) d_Q_readDeclaration_83 (C_Qwhole) rfl k_Q_whole ml_Q_32 (Or.inl ⟨by decide, rfl⟩) (by omega) (Nat.le_of_ble_eq_true rfl) ?_
        obtain ⟨rfl, rfl⟩ := w
        exact kv_e (fun _ _ => vv_aret (pc := 86) d_Q_readDeclaration_86 rfl (Or.inl ⟨_, rfl⟩) (cp_isr_rf _))
      · replace w := w.2 hc
        refine kw_null (pc := 78) d_Q_readDeclaration_78 ?_
        refine kv_p (fun _ _ _ _ _ _ v => vv_goto (pc := 79) (tgt := 83) d_Q_readDeclaration_79 rfl v) ?_
        refine kw_cv (pc := 83) (As := [va_rf (kr G 0)]) (As0 := (fun G => [.ref (cp_b G + 21), va_rf (kr G 0)])) d_Q_readDeclaration_83 (C_Qwhole) rfl k_Q_whole ml_Q_32 (Or.inl ⟨by decide, rfl⟩) (by omega) (Nat.le_of_ble_eq_true rfl) ?_
        obtain ⟨rfl, rfl⟩ := w
        exact kv_e (fun _ _ => vv_aret (pc := 86) d_Q_readDeclaration_86 rfl (Or.inl ⟨_, rfl⟩) (cp_isr_rf _))
theorem c_Q_readDeclaration {D : Nat} {o : cp_G → Option Value} {K' K : cp_K} (w : wp_Q_readDeclaration_0 D (fun G => .inl (o G)) K' K) : KC (D + 8) m_Q_readDeclaration (fun G => [.ref (cp_b G + 21)]) K o K' := KC.of2 rfl (fun G => by exact ⟨Nat.le_of_ble_eq_true rfl, rfl⟩) (b_Q_readDeclaration_0 w)
def wp_Q_readProgram_0 (D : Nat) (o : cp_G → cp_O) (K' K : cp_K) : Prop := ∃ r4 T2, KC (D + 7) m_Q_readVariables (fun G => [.ref (cp_b G + 21), va_rf (kr G K.1.1), .int 4, .int 61]) (ninit (kN K 9) K.1.1 17 0 0) (fun _ => some (.int r4)) T2 ∧ ((¬ (r4 : Int32) = 0 → ∃ r7 T5, KC (D + 7) m_Q_withPiece (fun G => [.ref (cp_b G + 21), va_rf (kr G K.1.1), .int 3, .int 1]) T2 (fun G => some (va_rf (kr G r7))) T5 ∧ (o = (fun G => .inl (some (va_rf (kr G (if T5.2.1 21 2 = T5.2.1 21 1 then r7 else 0))))) ∧ K' = T5)) ∧ ((r4 : Int32) = 0 → (o = (fun G => .inl (some (va_rf (kr G 0)))) ∧ K' = T2)))
theorem b_Q_readProgram_0 {D : Nat} {o : cp_G → cp_O} {K' K : cp_K} (w : wp_Q_readProgram_0 D o K' K) : JC (D + 8) m_Q_readProgram o K' 0 (fun G => [(0, .ref (cp_b G + 21))]) (fun _ => []) K := by
  unfold wp_Q_readProgram_0 at w
  intro G H d n0 z0 hd
  show kV G H m_Q_readProgram d n0 z0 (o G) K' 0 [(0, .ref (cp_b G + 21))] [] K
  refine kv_86 (fun h1 => ?_)
  refine kw_new (pc := 0) (N := 7) d_Q_readProgram_0 cp_ok9 cl_Q_36 rfl (by decide) kdef9 ?_
  refine kv_p (fun _ _ _ _ _ _ v => vv_dup (pc := 3) d_Q_readProgram_3 (kr_cat _) v) ?_
  refine kv_p (fun _ _ _ _ _ _ v => vv_bipush (pc := 4) (v := 17) d_Q_readProgram_4 rfl v) ?_
  refine kv_p (fun _ _ _ _ _ _ v => vv_iconst (pc := 6) (v := 0) d_Q_readProgram_6 rfl v) ?_
  refine kv_p (fun _ _ _ _ _ _ v => vv_iconst (pc := 7) (v := 0) d_Q_readProgram_7 rfl v) ?_
  refine kw_ci (pc := 8) (As := [.int 17, .int 0, .int 0]) (As0 := (fun G => [va_rf (kr G K.1.1), .int 17, .int 0, .int 0])) d_Q_readProgram_8 (C_Ninit (nd_self h1)) rfl k_N_init ml_Q_38 (nd_self h1) (by omega) (by cases kr G K.1.1 <;> exact Nat.le_of_ble_eq_true rfl) ?_
  refine kv_p (fun _ _ _ _ _ _ v => vv_astore_n (pc := 11) d_Q_readProgram_11 (cp_isr_rf (kr G K.1.1)) (Nat.le_of_ble_eq_true rfl) v) ?_
  refine kv_p (fun _ _ _ _ _ _ v => vv_aload_n (pc := 12) d_Q_readProgram_12 rfl v) ?_
  refine kv_p (fun _ _ _ _ _ _ v => vv_aload_nr (pc := 13) d_Q_readProgram_13 (cp_isr_rf (kr G K.1.1)) rfl v) ?_
  refine kv_p (fun _ _ _ _ _ _ v => vv_iconst (pc := 14) (v := 4) d_Q_readProgram_14 rfl v) ?_
  refine kv_p (fun _ _ _ _ _ _ v => vv_bipush (pc := 15) (v := 61) d_Q_readProgram_15 rfl v) ?_
  obtain ⟨r4, T2, c3, w⟩ := w
  refine kw_cv (pc := 17) (As := [va_rf (kr G K.1.1), .int 4, .int 61]) d_Q_readProgram_17 c3 rfl k_Q_readVariables ml_Q_64 (Or.inl ⟨by decide, rfl⟩) (by omega) (Nat.le_of_ble_eq_true rfl) ?_
  by_cases hc : (r4 : Int32) = 0
  · replace w := w.2 hc
    refine kv_p (fun _ _ _ _ _ _ v => vv_if_ne (pc := 20) (tgt := 25) d_Q_readProgram_20 rfl (fun hn => absurd hc hn) (fun _ => v)) ?_
    refine kw_null (pc := 23) d_Q_readProgram_23 ?_
    obtain ⟨rfl, rfl⟩ := w
    exact kv_e (fun _ _ => vv_aret (pc := 24) d_Q_readProgram_24 rfl (Or.inl ⟨_, rfl⟩) (cp_isr_rf _))
  · replace w := w.1 hc
    refine kv_p (fun _ _ _ _ _ _ v => vv_if_ne (pc := 20) (tgt := 25) d_Q_readProgram_20 rfl (fun _ => v) (fun hn => absurd hn hc)) ?_
    refine kv_p (fun _ _ _ _ _ _ v => vv_aload_n (pc := 25) d_Q_readProgram_25 rfl v) ?_
    refine kv_p (fun _ _ _ _ _ _ v => vv_aload_n (pc := 26) d_Q_readProgram_26 rfl v) ?_
    refine kv_p (fun _ _ _ _ _ _ v => vv_aload_nr (pc := 27) d_Q_readProgram_27 (cp_isr_rf (kr G K.1.1)) rfl v) ?_
    refine kv_p (fun _ _ _ _ _ _ v => vv_iconst (pc := 28) (v := 3) d_Q_readProgram_28 rfl v) ?_
    refine kv_p (fun _ _ _ _ _ _ v => vv_iconst (pc := 29) (v := 1) d_Q_readProgram_29 rfl v) ?_
    obtain ⟨r7, T5, c6, w⟩ := w
    refine kw_cv (pc := 30) (As := [va_rf (kr G K.1.1), .int 3, .int 1]) d_Q_readProgram_30 c6 rfl k_Q_withPiece ml_Q_60 (Or.inl ⟨by decide, rfl⟩) (by omega) (Nat.le_of_ble_eq_true rfl) ?_
    refine kw_cv (pc := 33) (As := [va_rf (kr G r7)]) (As0 := (fun G => [.ref (cp_b G + 21), va_rf (kr G r7)])) d_Q_readProgram_33 (C_Qwhole) rfl k_Q_whole ml_Q_32 (Or.inl ⟨by decide, rfl⟩) (by omega) (Nat.le_of_ble_eq_true rfl) ?_
    obtain ⟨rfl, rfl⟩ := w
    exact kv_e (fun _ _ => vv_aret (pc := 36) d_Q_readProgram_36 rfl (Or.inl ⟨_, rfl⟩) (cp_isr_rf _))
theorem c_Q_readProgram {D : Nat} {o : cp_G → Option Value} {K' K : cp_K} (w : wp_Q_readProgram_0 D (fun G => .inl (o G)) K' K) : KC (D + 8) m_Q_readProgram (fun G => [.ref (cp_b G + 21)]) K o K' := KC.of2 rfl (fun G => by exact ⟨Nat.le_of_ble_eq_true rfl, rfl⟩) (b_Q_readProgram_0 w)
def wp_Q_readParts_0 (D : Nat) (o : cp_G → cp_O) (K' K : cp_K) (p1 : Nat) : Prop := qok K ∧ ((((if qpk K = 62 then 1 else 0) : Int32) = 0 → JC (D + 8) m_Q_readParts o K' 13 (fun G => [(0, .ref (cp_b G + 21)), (1, va_rf (kr G p1)), (2, .int 1)]) (fun _ => []) (qtk K 62)) ∧ (¬ ((if qpk K = 62 then 1 else 0) : Int32) = 0 → (o = (fun _ => .inl (some (.int 1))) ∧ K' = (qtk K 62))))
theorem b_Q_readParts_0 {D : Nat} {o : cp_G → cp_O} {K' K : cp_K} {p1 : Nat} (w : wp_Q_readParts_0 D o K' K p1) : JC (D + 8) m_Q_readParts o K' 0 (fun G => [(0, .ref (cp_b G + 21)), (1, va_rf (kr G p1))]) (fun _ => []) K := by
  unfold wp_Q_readParts_0 at w
  intro G H d n0 z0 hd
  show kV G H m_Q_readParts d n0 z0 (o G) K' 0 [(0, .ref (cp_b G + 21)), (1, va_rf (kr G p1))] [] K
  refine kv_p (fun _ _ _ _ _ _ v => vv_aload_n (pc := 0) d_Q_readParts_0 rfl v) ?_
  refine kv_p (fun _ _ _ _ _ _ v => vv_bipush (pc := 1) (v := 62) d_Q_readParts_1 rfl v) ?_
  obtain ⟨b1, w⟩ := w
  refine kw_cv (pc := 3) (As := [.int 62]) (As0 := (fun G => [.ref (cp_b G + 21), .int 62])) d_Q_readParts_3 (C_Qtake b1) rfl k_Q_take ml_Q_68 (Or.inl ⟨by decide, rfl⟩) (by omega) (Nat.le_of_ble_eq_true rfl) ?_
  by_cases hc : ((if qpk K = 62 then 1 else 0) : Int32) = 0
  · replace w := w.1 hc
    refine kv_p (fun _ _ _ _ _ _ v => vv_if_eq (pc := 6) (tgt := 11) d_Q_readParts_6 rfl (fun _ => v) (fun hn => absurd hc hn)) ?_
    refine kv_p (fun _ _ _ _ _ _ v => vv_iconst (pc := 11) (v := 1) d_Q_readParts_11 rfl v) ?_
    refine kv_p (fun _ _ _ _ _ _ v => vv_istore_n (pc := 12) d_Q_readParts_12 (Nat.le_of_ble_eq_true rfl) v) ?_
    refine kw_lv (lv := [(2, .int 1), (0, .ref (cp_b G + 21)), (1, va_rf (kr G p1))]) (by cases kr G p1 <;> rfl) ?_
    exact kw_sub [1, 2, 0] rfl (w G H d n0 z0 hd)
  · replace w := w.2 hc
    refine kv_p (fun _ _ _ _ _ _ v => vv_if_eq (pc := 6) (tgt := 11) d_Q_readParts_6 rfl (fun hn => absurd hn hc) (fun _ => v)) ?_
    refine kv_p (fun _ _ _ _ _ _ v => vv_iconst (pc := 9) (v := 1) d_Q_readParts_9 rfl v) ?_
    obtain ⟨rfl, rfl⟩ := w
    exact kv_e (fun _ _ => vv_zret (pc := 10) d_Q_readParts_10 rfl rfl)
theorem c_Q_readParts {D : Nat} {o : cp_G → Option Value} {K' K : cp_K} {p1 : Nat} (w : wp_Q_readParts_0 D (fun G => .inl (o G)) K' K p1) : KC (D + 8) m_Q_readParts (fun G => [.ref (cp_b G + 21), va_rf (kr G p1)]) K o K' := KC.of2 rfl (fun G => by cases kr G p1 <;> exact ⟨Nat.le_of_ble_eq_true rfl, rfl⟩) (b_Q_readParts_0 w)
def wp_Q_readParts_13 (D : Nat) (o : cp_G → cp_O) (K' K : cp_K) (p1 : Nat) (x2 : Int32) : Prop := ((6 < (x2 : Int32) → (o = (fun _ => .inl (some (.int 0))) ∧ K' = K)) ∧ (¬ 6 < (x2 : Int32) → ∃ r3 T1, KC (D + 7) m_Q_readPart (fun G => [.ref (cp_b G + 21)]) K (fun G => some (va_rf (kr G r3))) T1 ∧ ((¬ r3 = (0 : Nat) → nd T1 p1 9 ∧ (¬ T1.2.2.1 p1 5 = 0 → nd T1 (T1.2.2.1 p1 5) 9) ∧ qok T1 ∧ ((((if qpk (nadd T1 p1 r3) = 62 then 1 else 0) : Int32) = 0 → (((x2 : Int32) = 6 → (o = (fun _ => .inl (some (.int 0))) ∧ K' = (qtk (nadd T1 p1 r3) 62))) ∧ (¬ (x2 : Int32) = 6 → ((¬ ((if qpk (qtk (nadd T1 p1 r3) 62) = 44 then 1 else 0) : Int32) = 0 → JC (D + 8) m_Q_readParts o K' 13 (fun G => [(0, .ref (cp_b G + 21)), (1, va_rf (kr G p1)), (2, .int (x2 + 1))]) (fun _ => []) (qtk (qtk (nadd T1 p1 r3) 62) 44)) ∧ (((if qpk (qtk (nadd T1 p1 r3) 62) = 44 then 1 else 0) : Int32) = 0 → (o = (fun _ => .inl (some (.int 0))) ∧ K' = (qtk (qtk (nadd T1 p1 r3) 62) 44))))))) ∧ (¬ ((if qpk (nadd T1 p1 r3) = 62 then 1 else 0) : Int32) = 0 → (o = (fun _ => .inl (some (.int 1))) ∧ K' = (qtk (nadd T1 p1 r3) 62))))) ∧ (r3 = (0 : Nat) → (o = (fun _ => .inl (some (.int 0))) ∧ K' = T1)))))
theorem b_Q_readParts_13 {D : Nat} {o : cp_G → cp_O} {K' K : cp_K} {p1 : Nat} {x2 : Int32} (w : wp_Q_readParts_13 D o K' K p1 x2) : JC (D + 8) m_Q_readParts o K' 13 (fun G => [(0, .ref (cp_b G + 21)), (1, va_rf (kr G p1)), (2, .int x2)]) (fun _ => []) K := by
  unfold wp_Q_readParts_13 at w
  intro G H d n0 z0 hd
  show kV G H m_Q_readParts d n0 z0 (o G) K' 13 [(0, .ref (cp_b G + 21)), (1, va_rf (kr G p1)), (2, .int x2)] [] K
  refine kv_p (fun _ _ _ _ _ _ v => vv_iload_n (pc := 13) d_Q_readParts_13 rfl v) ?_
  refine kv_p (fun _ _ _ _ _ _ v => vv_bipush (pc := 14) (v := 6) d_Q_readParts_14 rfl v) ?_
  by_cases hc : 6 < (x2 : Int32)
  · replace w := w.1 hc
    refine kv_p (fun _ _ _ _ _ _ v => vv_icmp_gt (pc := 16) (tgt := 69) d_Q_readParts_16 rfl (fun _ => v) (fun hn => absurd hc hn)) ?_
    refine kv_p (fun _ _ _ _ _ _ v => vv_iconst (pc := 69) (v := 0) d_Q_readParts_69 rfl v) ?_
    obtain ⟨rfl, rfl⟩ := w
    exact kv_e (fun _ _ => vv_zret (pc := 70) d_Q_readParts_70 rfl rfl)
  · replace w := w.2 hc
    refine kv_p (fun _ _ _ _ _ _ v => vv_icmp_gt (pc := 16) (tgt := 69) d_Q_readParts_16 rfl (fun hn => absurd hn hc) (fun _ => v)) ?_
    refine kv_p (fun _ _ _ _ _ _ v => vv_aload_n (pc := 19) d_Q_readParts_19 rfl v) ?_
    obtain ⟨r3, T1, c2, w⟩ := w
    refine kw_cv (pc := 20) (As := []) d_Q_readParts_20 c2 rfl k_Q_readPart ml_Q_72 (Or.inl ⟨by decide, rfl⟩) (by omega) (Nat.le_of_ble_eq_true rfl) ?_
    refine kv_p (fun _ _ _ _ _ _ v => vv_astore_n (pc := 23) d_Q_readParts_23 (cp_isr_rf (kr G r3)) (Nat.le_of_ble_eq_true rfl) v) ?_
    refine kv_p (fun _ _ _ _ _ _ v => vv_aload_nr (pc := 24) d_Q_readParts_24 (cp_isr_rf (kr G r3)) rfl v) ?_
    refine kw_ifnonnull (pc := 25) (tgt := 30) d_Q_readParts_25 rfl (fun hc => ?_) (fun hc => ?_)
    · replace w := w.1 hc
      refine kv_p (fun _ _ _ _ _ _ v => vv_aload_nr (pc := 30) d_Q_readParts_30 (cp_isr_rf (kr G p1)) rfl v) ?_
      refine kv_p (fun _ _ _ _ _ _ v => vv_aload_nr (pc := 31) d_Q_readParts_31 (cp_isr_rf (kr G r3)) rfl v) ?_
      obtain ⟨b4, w⟩ := w
      obtain ⟨b5, w⟩ := w
      refine kw_cn (pc := 32) (As := [va_rf (kr G r3)]) (As0 := (fun G => [va_rf (kr G p1), va_rf (kr G r3)])) d_Q_readParts_32 (C_Nadd b4 b5) rfl k_N_add ml_Q_49 b4 (by omega) (Nat.le_of_ble_eq_true rfl) ?_
      refine kv_p (fun _ _ _ _ _ _ v => vv_aload_n (pc := 35) d_Q_readParts_35 rfl v) ?_
      refine kv_p (fun _ _ _ _ _ _ v => vv_bipush (pc := 36) (v := 62) d_Q_readParts_36 rfl v) ?_
      obtain ⟨b6, w⟩ := w
      refine kw_cv (pc := 38) (As := [.int 62]) (As0 := (fun G => [.ref (cp_b G + 21), .int 62])) d_Q_readParts_38 (C_Qtake (qok_nadd b6 b4 b5)) rfl k_Q_take ml_Q_68 (Or.inl ⟨by decide, rfl⟩) (by omega) (Nat.le_of_ble_eq_true rfl) ?_
      by_cases hc : ((if qpk (nadd T1 p1 r3) = 62 then 1 else 0) : Int32) = 0
      · replace w := w.1 hc
        refine kv_p (fun _ _ _ _ _ _ v => vv_if_eq (pc := 41) (tgt := 46) d_Q_readParts_41 rfl (fun _ => v) (fun hn => absurd hc hn)) ?_
        refine kv_p (fun _ _ _ _ _ _ v => vv_iload_n (pc := 46) d_Q_readParts_46 rfl v) ?_
        refine kv_p (fun _ _ _ _ _ _ v => vv_bipush (pc := 47) (v := 6) d_Q_readParts_47 rfl v) ?_
        by_cases hc : (x2 : Int32) = 6
        · replace w := w.1 hc
          refine kv_p (fun _ _ _ _ _ _ v => vv_icmp_eq (pc := 49) (tgt := 61) d_Q_readParts_49 rfl (fun _ => v) (fun hn => absurd hc hn)) ?_
          refine kv_p (fun _ _ _ _ _ _ v => vv_iconst (pc := 61) (v := 0) d_Q_readParts_61 rfl v) ?_
          obtain ⟨rfl, rfl⟩ := w
          exact kv_e (fun _ _ => vv_zret (pc := 62) d_Q_readParts_62 rfl rfl)
        · replace w := w.2 hc
          refine kv_p (fun _ _ _ _ _ _ v => vv_icmp_eq (pc := 49) (tgt := 61) d_Q_readParts_49 rfl (fun hn => absurd hn hc) (fun _ => v)) ?_
          refine kv_p (fun _ _ _ _ _ _ v => vv_aload_n (pc := 52) d_Q_readParts_52 rfl v) ?_
          refine kv_p (fun _ _ _ _ _ _ v => vv_bipush (pc := 53) (v := 44) d_Q_readParts_53 rfl v) ?_
          refine kw_cv (pc := 55) (As := [.int 44]) (As0 := (fun G => [.ref (cp_b G + 21), .int 44])) d_Q_readParts_55 (C_Qtake (qok_qtk (qok_nadd b6 b4 b5))) rfl k_Q_take ml_Q_68 (Or.inl ⟨by decide, rfl⟩) (by omega) (Nat.le_of_ble_eq_true rfl) ?_
          by_cases hc : ((if qpk (qtk (nadd T1 p1 r3) 62) = 44 then 1 else 0) : Int32) = 0
          · replace w := w.2 hc
            refine kv_p (fun _ _ _ _ _ _ v => vv_if_ne (pc := 58) (tgt := 63) d_Q_readParts_58 rfl (fun hn => absurd hc hn) (fun _ => v)) ?_
            refine kv_p (fun _ _ _ _ _ _ v => vv_iconst (pc := 61) (v := 0) d_Q_readParts_61 rfl v) ?_
            obtain ⟨rfl, rfl⟩ := w
            exact kv_e (fun _ _ => vv_zret (pc := 62) d_Q_readParts_62 rfl rfl)
          · replace w := w.1 hc
            refine kv_p (fun _ _ _ _ _ _ v => vv_if_ne (pc := 58) (tgt := 63) d_Q_readParts_58 rfl (fun _ => v) (fun hn => absurd hn hc)) ?_
            refine kv_p (fun _ _ _ _ _ _ v => vv_iinc (pc := 63) (v := (x2 + 1)) d_Q_readParts_63 rfl rfl (Nat.le_of_ble_eq_true rfl) v) ?_
            refine kw_lv (lv := [(2, .int (x2 + 1)), (3, va_rf (kr G r3)), (0, .ref (cp_b G + 21)), (1, va_rf (kr G p1))]) (by cases kr G p1 <;> rfl) ?_
            refine kv_p (fun _ _ _ _ _ _ v => vv_goto (pc := 66) (tgt := 13) d_Q_readParts_66 rfl v) ?_
            exact kw_sub [2, 3, 0] rfl (w G H d n0 z0 hd)
      · replace w := w.2 hc
        refine kv_p (fun _ _ _ _ _ _ v => vv_if_eq (pc := 41) (tgt := 46) d_Q_readParts_41 rfl (fun hn => absurd hn hc) (fun _ => v)) ?_
        refine kv_p (fun _ _ _ _ _ _ v => vv_iconst (pc := 44) (v := 1) d_Q_readParts_44 rfl v) ?_
        obtain ⟨rfl, rfl⟩ := w
        exact kv_e (fun _ _ => vv_zret (pc := 45) d_Q_readParts_45 rfl rfl)
    · replace w := w.2 hc
      refine kv_p (fun _ _ _ _ _ _ v => vv_iconst (pc := 28) (v := 0) d_Q_readParts_28 rfl v) ?_
      obtain ⟨rfl, rfl⟩ := w
      exact kv_e (fun _ _ => vv_zret (pc := 29) d_Q_readParts_29 rfl rfl)
def wp_Q_readPart_0 (D : Nat) (o : cp_G → cp_O) (K' K : cp_K) : Prop := qok K ∧ ((((qpk K) : Int32) = 35 → JC (D + 8) m_Q_readPart o K' 18 (fun G => [(0, .ref (cp_b G + 21)), (1, .int (qpk K))]) (fun _ => []) K) ∧ (¬ ((qpk K) : Int32) = 35 → ((((if 65 ≤ (qpk K) ∧ (qpk K) ≤ 90 then 1 else 0) : Int32) = 0 → ((((if 97 ≤ (qpk K) ∧ (qpk K) ≤ 122 then 1 else 0) : Int32) = 0 → ((((if qpk K = 63 then 1 else 0) : Int32) = 0 → (o = (fun G => .inl (some (va_rf (kr G 0)))) ∧ K' = (qtk K 63))) ∧ (¬ ((if qpk K = 63 then 1 else 0) : Int32) = 0 → ((¬ ((if 65 ≤ (qpk (qtk K 63)) ∧ (qpk (qtk K 63)) ≤ 90 then 1 else 0) : Int32) = 0 → ((((if qpk (qlf (qtk K 63) 15 (qpk (qtk K 63))) = 40 then 1 else 0) : Int32) = 0 → JC (D + 8) m_Q_readPart o K' 141 (fun G => [(0, .ref (cp_b G + 21)), (1, .int (qpk K)), (2, va_rf (kr G (qtk K 63).1.1))]) (fun _ => []) (qtk (qlf (qtk K 63) 15 (qpk (qtk K 63))) 40)) ∧ (¬ ((if qpk (qlf (qtk K 63) 15 (qpk (qtk K 63))) = 40 then 1 else 0) : Int32) = 0 → ∃ r5 T3, KC (D + 7) m_Q_readPieces (fun G => [.ref (cp_b G + 21), va_rf (kr G (qtk K 63).1.1), .int 2, .int 1, .int 41]) (qtk (qlf (qtk K 63) 15 (qpk (qtk K 63))) 40) (fun _ => some (.int r5)) T3 ∧ (((r5 : Int32) = 0 → JC (D + 8) m_Q_readPart o K' 141 (fun G => [(0, .ref (cp_b G + 21)), (1, .int (qpk K)), (2, va_rf (kr G (qtk K 63).1.1))]) (fun _ => []) T3) ∧ (¬ (r5 : Int32) = 0 → qok T3 ∧ ((((if qpk T3 = 61 then 1 else 0) : Int32) = 0 → JC (D + 8) m_Q_readPart o K' 141 (fun G => [(0, .ref (cp_b G + 21)), (1, .int (qpk K)), (2, va_rf (kr G (qtk K 63).1.1))]) (fun _ => []) (qtk T3 61)) ∧ (¬ ((if qpk T3 = 61 then 1 else 0) : Int32) = 0 → ∃ r9 T7, KC (D + 7) m_Q_withPiece (fun G => [.ref (cp_b G + 21), va_rf (kr G (qtk K 63).1.1), .int 2, .int 1]) (qtk T3 61) (fun G => some (va_rf (kr G r9))) T7 ∧ (o = (fun G => .inl (some (va_rf (kr G r9)))) ∧ K' = T7)))))))) ∧ (((if 65 ≤ (qpk (qtk K 63)) ∧ (qpk (qtk K 63)) ≤ 90 then 1 else 0) : Int32) = 0 → (o = (fun G => .inl (some (va_rf (kr G 0)))) ∧ K' = (qtk K 63))))))) ∧ (¬ ((if 97 ≤ (qpk K) ∧ (qpk K) ≤ 122 then 1 else 0) : Int32) = 0 → ((((if qpk (qlf K 14 (qpk K)) = 58 then 1 else 0) : Int32) = 0 → (o = (fun G => .inl (some (va_rf (kr G 0)))) ∧ K' = (qtk (qlf K 14 (qpk K)) 58))) ∧ (¬ ((if qpk (qlf K 14 (qpk K)) = 58 then 1 else 0) : Int32) = 0 → ∃ r13 T11, KC (D + 7) m_Q_withPiece (fun G => [.ref (cp_b G + 21), va_rf (kr G K.1.1), .int 2, .int 1]) (qtk (qlf K 14 (qpk K)) 58) (fun G => some (va_rf (kr G r13))) T11 ∧ (o = (fun G => .inl (some (va_rf (kr G r13)))) ∧ K' = T11)))))) ∧ (¬ ((if 65 ≤ (qpk K) ∧ (qpk K) ≤ 90 then 1 else 0) : Int32) = 0 → JC (D + 8) m_Q_readPart o K' 18 (fun G => [(0, .ref (cp_b G + 21)), (1, .int (qpk K))]) (fun _ => []) K))))
theorem b_Q_readPart_0 {D : Nat} {o : cp_G → cp_O} {K' K : cp_K} (w : wp_Q_readPart_0 D o K' K) : JC (D + 8) m_Q_readPart o K' 0 (fun G => [(0, .ref (cp_b G + 21))]) (fun _ => []) K := by
  unfold wp_Q_readPart_0 at w
  intro G H d n0 z0 hd
  show kV G H m_Q_readPart d n0 z0 (o G) K' 0 [(0, .ref (cp_b G + 21))] [] K
  refine kv_p (fun _ _ _ _ _ _ v => vv_aload_n (pc := 0) d_Q_readPart_0 rfl v) ?_
  obtain ⟨b1, w⟩ := w
  refine kw_cv (pc := 1) (As := []) (As0 := (fun G => [.ref (cp_b G + 21)])) d_Q_readPart_1 (C_Qpeek b1) rfl k_Q_peek ml_Q_53 (Or.inl ⟨by decide, rfl⟩) (by omega) (Nat.le_of_ble_eq_true rfl) ?_
  refine kv_p (fun _ _ _ _ _ _ v => vv_istore_n (pc := 4) d_Q_readPart_4 (Nat.le_of_ble_eq_true rfl) v) ?_
  refine kv_p (fun _ _ _ _ _ _ v => vv_iload_n (pc := 5) d_Q_readPart_5 rfl v) ?_
  refine kv_p (fun _ _ _ _ _ _ v => vv_bipush (pc := 6) (v := 35) d_Q_readPart_6 rfl v) ?_
  by_cases hc : ((qpk K) : Int32) = 35
  · replace w := w.1 hc
    refine kv_p (fun _ _ _ _ _ _ v => vv_icmp_eq (pc := 8) (tgt := 18) d_Q_readPart_8 rfl (fun _ => v) (fun hn => absurd hc hn)) ?_
    exact kw_sub [1, 0] rfl (w G H d n0 z0 hd)
  · replace w := w.2 hc
    refine kv_p (fun _ _ _ _ _ _ v => vv_icmp_eq (pc := 8) (tgt := 18) d_Q_readPart_8 rfl (fun hn => absurd hn hc) (fun _ => v)) ?_
    refine kv_p (fun _ _ _ _ _ _ v => vv_iload_n (pc := 11) d_Q_readPart_11 rfl v) ?_
    refine kw_csn (pc := 12) (As := [.int (qpk K)]) d_Q_readPart_12 (SC_P_isLetter (qpk K)) k_P_isLetter nl_Q_76 ks_P_isLetter (by omega) (Nat.le_of_ble_eq_true rfl) ?_
    by_cases hc : ((if 65 ≤ (qpk K) ∧ (qpk K) ≤ 90 then 1 else 0) : Int32) = 0
    · replace w := w.1 hc
      refine kv_p (fun _ _ _ _ _ _ v => vv_if_eq (pc := 15) (tgt := 39) d_Q_readPart_15 rfl (fun _ => v) (fun hn => absurd hc hn)) ?_
      refine kv_p (fun _ _ _ _ _ _ v => vv_iload_n (pc := 39) d_Q_readPart_39 rfl v) ?_
      refine kw_csn (pc := 40) (As := [.int (qpk K)]) d_Q_readPart_40 (SC_P_isVariable (qpk K)) k_P_isVariable nl_Q_79 ks_P_isVariable (by omega) (Nat.le_of_ble_eq_true rfl) ?_
      by_cases hc : ((if 97 ≤ (qpk K) ∧ (qpk K) ≤ 122 then 1 else 0) : Int32) = 0
      · replace w := w.1 hc
        refine kv_p (fun _ _ _ _ _ _ v => vv_if_eq (pc := 43) (tgt := 75) d_Q_readPart_43 rfl (fun _ => v) (fun hn => absurd hc hn)) ?_
        refine kv_p (fun _ _ _ _ _ _ v => vv_aload_n (pc := 75) d_Q_readPart_75 rfl v) ?_
        refine kv_p (fun _ _ _ _ _ _ v => vv_bipush (pc := 76) (v := 63) d_Q_readPart_76 rfl v) ?_
        refine kw_cv (pc := 78) (As := [.int 63]) (As0 := (fun G => [.ref (cp_b G + 21), .int 63])) d_Q_readPart_78 (C_Qtake b1) rfl k_Q_take ml_Q_68 (Or.inl ⟨by decide, rfl⟩) (by omega) (Nat.le_of_ble_eq_true rfl) ?_
        by_cases hc : ((if qpk K = 63 then 1 else 0) : Int32) = 0
        · replace w := w.1 hc
          refine kv_p (fun _ _ _ _ _ _ v => vv_if_eq (pc := 81) (tgt := 94) d_Q_readPart_81 rfl (fun _ => v) (fun hn => absurd hc hn)) ?_
          refine kw_null (pc := 94) d_Q_readPart_94 ?_
          obtain ⟨rfl, rfl⟩ := w
          exact kv_e (fun _ _ => vv_aret (pc := 95) d_Q_readPart_95 rfl (Or.inl ⟨_, rfl⟩) (cp_isr_rf _))
        · replace w := w.2 hc
          refine kv_p (fun _ _ _ _ _ _ v => vv_if_eq (pc := 81) (tgt := 94) d_Q_readPart_81 rfl (fun hn => absurd hn hc) (fun _ => v)) ?_
          refine kv_p (fun _ _ _ _ _ _ v => vv_aload_n (pc := 84) d_Q_readPart_84 rfl v) ?_
          refine kw_cv (pc := 85) (As := []) (As0 := (fun G => [.ref (cp_b G + 21)])) d_Q_readPart_85 (C_Qpeek (qok_qtk b1)) rfl k_Q_peek ml_Q_53 (Or.inl ⟨by decide, rfl⟩) (by omega) (Nat.le_of_ble_eq_true rfl) ?_
          refine kw_csn (pc := 88) (As := [.int (qpk (qtk K 63))]) d_Q_readPart_88 (SC_P_isLetter (qpk (qtk K 63))) k_P_isLetter nl_Q_76 ks_P_isLetter (by omega) (Nat.le_of_ble_eq_true rfl) ?_
          by_cases hc : ((if 65 ≤ (qpk (qtk K 63)) ∧ (qpk (qtk K 63)) ≤ 90 then 1 else 0) : Int32) = 0
          · replace w := w.2 hc
            refine kv_p (fun _ _ _ _ _ _ v => vv_if_ne (pc := 91) (tgt := 96) d_Q_readPart_91 rfl (fun hn => absurd hc hn) (fun _ => v)) ?_
            refine kw_null (pc := 94) d_Q_readPart_94 ?_
            obtain ⟨rfl, rfl⟩ := w
            exact kv_e (fun _ _ => vv_aret (pc := 95) d_Q_readPart_95 rfl (Or.inl ⟨_, rfl⟩) (cp_isr_rf _))
          · replace w := w.1 hc
            refine kv_p (fun _ _ _ _ _ _ v => vv_if_ne (pc := 91) (tgt := 96) d_Q_readPart_91 rfl (fun _ => v) (fun hn => absurd hn hc)) ?_
            refine kv_p (fun _ _ _ _ _ _ v => vv_aload_n (pc := 96) d_Q_readPart_96 rfl v) ?_
            refine kv_p (fun _ _ _ _ _ _ v => vv_bipush (pc := 97) (v := 15) d_Q_readPart_97 rfl v) ?_
            refine kv_p (fun _ _ _ _ _ _ v => vv_aload_n (pc := 99) d_Q_readPart_99 rfl v) ?_
            refine kw_cv (pc := 100) (As := []) (As0 := (fun G => [.ref (cp_b G + 21)])) d_Q_readPart_100 (C_Qpeek (qok_qtk b1)) rfl k_Q_peek ml_Q_53 (Or.inl ⟨by decide, rfl⟩) (by omega) (Nat.le_of_ble_eq_true rfl) ?_
            refine kv_86 (fun h2 => ?_)
            refine kw_cv (pc := 103) (As := [.int 15, .int (qpk (qtk K 63))]) (As0 := (fun G => [.ref (cp_b G + 21), .int 15, .int (qpk (qtk K 63))])) d_Q_readPart_103 (C_Qleaf h2) rfl k_Q_leaf ml_Q_57 (Or.inl ⟨by decide, rfl⟩) (by omega) (Nat.le_of_ble_eq_true rfl) ?_
            refine kv_p (fun _ _ _ _ _ _ v => vv_astore_n (pc := 106) d_Q_readPart_106 (cp_isr_rf (kr G (qtk K 63).1.1)) (Nat.le_of_ble_eq_true rfl) v) ?_
            refine kv_p (fun _ _ _ _ _ _ v => vv_aload_n (pc := 107) d_Q_readPart_107 rfl v) ?_
            refine kv_p (fun _ _ _ _ _ _ v => vv_bipush (pc := 108) (v := 40) d_Q_readPart_108 rfl v) ?_
            refine kw_cv (pc := 110) (As := [.int 40]) (As0 := (fun G => [.ref (cp_b G + 21), .int 40])) d_Q_readPart_110 (C_Qtake (qok_qlf (qok_qtk b1) h2)) rfl k_Q_take ml_Q_68 (Or.inl ⟨by decide, rfl⟩) (by omega) (Nat.le_of_ble_eq_true rfl) ?_
            by_cases hc : ((if qpk (qlf (qtk K 63) 15 (qpk (qtk K 63))) = 40 then 1 else 0) : Int32) = 0
            · replace w := w.1 hc
              refine kv_p (fun _ _ _ _ _ _ v => vv_if_eq (pc := 113) (tgt := 141) d_Q_readPart_113 rfl (fun _ => v) (fun hn => absurd hc hn)) ?_
              exact kw_sub [2, 1, 0] rfl (w G H d n0 z0 hd)
            · replace w := w.2 hc
              refine kv_p (fun _ _ _ _ _ _ v => vv_if_eq (pc := 113) (tgt := 141) d_Q_readPart_113 rfl (fun hn => absurd hn hc) (fun _ => v)) ?_
              refine kv_p (fun _ _ _ _ _ _ v => vv_aload_n (pc := 116) d_Q_readPart_116 rfl v) ?_
              refine kv_p (fun _ _ _ _ _ _ v => vv_aload_nr (pc := 117) d_Q_readPart_117 (cp_isr_rf (kr G (qtk K 63).1.1)) rfl v) ?_
              refine kv_p (fun _ _ _ _ _ _ v => vv_iconst (pc := 118) (v := 2) d_Q_readPart_118 rfl v) ?_
              refine kv_p (fun _ _ _ _ _ _ v => vv_iconst (pc := 119) (v := 1) d_Q_readPart_119 rfl v) ?_
              refine kv_p (fun _ _ _ _ _ _ v => vv_bipush (pc := 120) (v := 41) d_Q_readPart_120 rfl v) ?_
              obtain ⟨r5, T3, c4, w⟩ := w
              refine kw_cv (pc := 122) (As := [va_rf (kr G (qtk K 63).1.1), .int 2, .int 1, .int 41]) d_Q_readPart_122 c4 rfl k_Q_readPieces ml_Q_41 (Or.inl ⟨by decide, rfl⟩) (by omega) (Nat.le_of_ble_eq_true rfl) ?_
              by_cases hc : (r5 : Int32) = 0
              · replace w := w.1 hc
                refine kv_p (fun _ _ _ _ _ _ v => vv_if_eq (pc := 125) (tgt := 141) d_Q_readPart_125 rfl (fun _ => v) (fun hn => absurd hc hn)) ?_
                exact kw_sub [2, 1, 0] rfl (w G H d n0 z0 hd)
              · replace w := w.2 hc
                refine kv_p (fun _ _ _ _ _ _ v => vv_if_eq (pc := 125) (tgt := 141) d_Q_readPart_125 rfl (fun hn => absurd hn hc) (fun _ => v)) ?_
                refine kv_p (fun _ _ _ _ _ _ v => vv_aload_n (pc := 128) d_Q_readPart_128 rfl v) ?_
                refine kv_p (fun _ _ _ _ _ _ v => vv_bipush (pc := 129) (v := 61) d_Q_readPart_129 rfl v) ?_
                obtain ⟨b6, w⟩ := w
                refine kw_cv (pc := 131) (As := [.int 61]) (As0 := (fun G => [.ref (cp_b G + 21), .int 61])) d_Q_readPart_131 (C_Qtake b6) rfl k_Q_take ml_Q_68 (Or.inl ⟨by decide, rfl⟩) (by omega) (Nat.le_of_ble_eq_true rfl) ?_
                by_cases hc : ((if qpk T3 = 61 then 1 else 0) : Int32) = 0
                · replace w := w.1 hc
                  refine kv_p (fun _ _ _ _ _ _ v => vv_if_eq (pc := 134) (tgt := 141) d_Q_readPart_134 rfl (fun _ => v) (fun hn => absurd hc hn)) ?_
                  exact kw_sub [2, 1, 0] rfl (w G H d n0 z0 hd)
                · replace w := w.2 hc
                  refine kv_p (fun _ _ _ _ _ _ v => vv_if_eq (pc := 134) (tgt := 141) d_Q_readPart_134 rfl (fun hn => absurd hn hc) (fun _ => v)) ?_
                  refine kv_p (fun _ _ _ _ _ _ v => vv_iconst (pc := 137) (v := 1) d_Q_readPart_137 rfl v) ?_
                  refine kv_p (fun _ _ _ _ _ _ v => vv_goto (pc := 138) (tgt := 142) d_Q_readPart_138 rfl v) ?_
                  refine kv_p (fun _ _ _ _ _ _ v => vv_istore_n (pc := 142) d_Q_readPart_142 (Nat.le_of_ble_eq_true rfl) v) ?_
                  refine kw_lv (lv := [(3, .int 1), (2, va_rf (kr G (qtk K 63).1.1)), (1, .int (qpk K)), (0, .ref (cp_b G + 21))]) (by cases kr G (qtk K 63).1.1 <;> rfl) ?_
                  refine kv_p (fun _ _ _ _ _ _ v => vv_iload_n (pc := 143) d_Q_readPart_143 rfl v) ?_
                  refine kv_p (fun _ _ _ _ _ _ v => vv_if_eq (pc := 144) (tgt := 157) d_Q_readPart_144 rfl (fun hn => absurd hn (by decide)) (fun _ => v)) ?_
                  refine kv_p (fun _ _ _ _ _ _ v => vv_aload_n (pc := 147) d_Q_readPart_147 rfl v) ?_
                  refine kv_p (fun _ _ _ _ _ _ v => vv_aload_nr (pc := 148) d_Q_readPart_148 (cp_isr_rf (kr G (qtk K 63).1.1)) rfl v) ?_
                  refine kv_p (fun _ _ _ _ _ _ v => vv_iconst (pc := 149) (v := 2) d_Q_readPart_149 rfl v) ?_
                  refine kv_p (fun _ _ _ _ _ _ v => vv_iconst (pc := 150) (v := 1) d_Q_readPart_150 rfl v) ?_
                  obtain ⟨r9, T7, c8, w⟩ := w
                  refine kw_cv (pc := 151) (As := [va_rf (kr G (qtk K 63).1.1), .int 2, .int 1]) d_Q_readPart_151 c8 rfl k_Q_withPiece ml_Q_60 (Or.inl ⟨by decide, rfl⟩) (by omega) (Nat.le_of_ble_eq_true rfl) ?_
                  refine kv_p (fun _ _ _ _ _ _ v => vv_goto (pc := 154) (tgt := 158) d_Q_readPart_154 rfl v) ?_
                  obtain ⟨rfl, rfl⟩ := w
                  exact kv_e (fun _ _ => vv_aret (pc := 158) d_Q_readPart_158 rfl (Or.inl ⟨_, rfl⟩) (cp_isr_rf _))
      · replace w := w.2 hc
        refine kv_p (fun _ _ _ _ _ _ v => vv_if_eq (pc := 43) (tgt := 75) d_Q_readPart_43 rfl (fun hn => absurd hn hc) (fun _ => v)) ?_
        refine kv_p (fun _ _ _ _ _ _ v => vv_aload_n (pc := 46) d_Q_readPart_46 rfl v) ?_
        refine kv_p (fun _ _ _ _ _ _ v => vv_bipush (pc := 47) (v := 14) d_Q_readPart_47 rfl v) ?_
        refine kv_p (fun _ _ _ _ _ _ v => vv_iload_n (pc := 49) d_Q_readPart_49 rfl v) ?_
        refine kv_86 (fun h10 => ?_)
        refine kw_cv (pc := 50) (As := [.int 14, .int (qpk K)]) (As0 := (fun G => [.ref (cp_b G + 21), .int 14, .int (qpk K)])) d_Q_readPart_50 (C_Qleaf h10) rfl k_Q_leaf ml_Q_57 (Or.inl ⟨by decide, rfl⟩) (by omega) (Nat.le_of_ble_eq_true rfl) ?_
        refine kv_p (fun _ _ _ _ _ _ v => vv_astore_n (pc := 53) d_Q_readPart_53 (cp_isr_rf (kr G K.1.1)) (Nat.le_of_ble_eq_true rfl) v) ?_
        refine kv_p (fun _ _ _ _ _ _ v => vv_aload_n (pc := 54) d_Q_readPart_54 rfl v) ?_
        refine kv_p (fun _ _ _ _ _ _ v => vv_bipush (pc := 55) (v := 58) d_Q_readPart_55 rfl v) ?_
        refine kw_cv (pc := 57) (As := [.int 58]) (As0 := (fun G => [.ref (cp_b G + 21), .int 58])) d_Q_readPart_57 (C_Qtake (qok_qlf b1 h10)) rfl k_Q_take ml_Q_68 (Or.inl ⟨by decide, rfl⟩) (by omega) (Nat.le_of_ble_eq_true rfl) ?_
        by_cases hc : ((if qpk (qlf K 14 (qpk K)) = 58 then 1 else 0) : Int32) = 0
        · replace w := w.1 hc
          refine kv_p (fun _ _ _ _ _ _ v => vv_if_eq (pc := 60) (tgt := 73) d_Q_readPart_60 rfl (fun _ => v) (fun hn => absurd hc hn)) ?_
          refine kw_null (pc := 73) d_Q_readPart_73 ?_
          obtain ⟨rfl, rfl⟩ := w
          exact kv_e (fun _ _ => vv_aret (pc := 74) d_Q_readPart_74 rfl (Or.inl ⟨_, rfl⟩) (cp_isr_rf _))
        · replace w := w.2 hc
          refine kv_p (fun _ _ _ _ _ _ v => vv_if_eq (pc := 60) (tgt := 73) d_Q_readPart_60 rfl (fun hn => absurd hn hc) (fun _ => v)) ?_
          refine kv_p (fun _ _ _ _ _ _ v => vv_aload_n (pc := 63) d_Q_readPart_63 rfl v) ?_
          refine kv_p (fun _ _ _ _ _ _ v => vv_aload_nr (pc := 64) d_Q_readPart_64 (cp_isr_rf (kr G K.1.1)) rfl v) ?_
          refine kv_p (fun _ _ _ _ _ _ v => vv_iconst (pc := 65) (v := 2) d_Q_readPart_65 rfl v) ?_
          refine kv_p (fun _ _ _ _ _ _ v => vv_iconst (pc := 66) (v := 1) d_Q_readPart_66 rfl v) ?_
          obtain ⟨r13, T11, c12, w⟩ := w
          refine kw_cv (pc := 67) (As := [va_rf (kr G K.1.1), .int 2, .int 1]) d_Q_readPart_67 c12 rfl k_Q_withPiece ml_Q_60 (Or.inl ⟨by decide, rfl⟩) (by omega) (Nat.le_of_ble_eq_true rfl) ?_
          refine kv_p (fun _ _ _ _ _ _ v => vv_goto (pc := 70) (tgt := 74) d_Q_readPart_70 rfl v) ?_
          obtain ⟨rfl, rfl⟩ := w
          exact kv_e (fun _ _ => vv_aret (pc := 74) d_Q_readPart_74 rfl (Or.inl ⟨_, rfl⟩) (cp_isr_rf _))
    · replace w := w.2 hc
      refine kv_p (fun _ _ _ _ _ _ v => vv_if_eq (pc := 15) (tgt := 39) d_Q_readPart_15 rfl (fun hn => absurd hn hc) (fun _ => v)) ?_
      exact kw_sub [1, 0] rfl (w G H d n0 z0 hd)
theorem c_Q_readPart {D : Nat} {o : cp_G → Option Value} {K' K : cp_K} (w : wp_Q_readPart_0 D (fun G => .inl (o G)) K' K) : KC (D + 8) m_Q_readPart (fun G => [.ref (cp_b G + 21)]) K o K' := KC.of2 rfl (fun G => by exact ⟨Nat.le_of_ble_eq_true rfl, rfl⟩) (b_Q_readPart_0 w)
def wp_Q_readPart_18 (D : Nat) (o : cp_G → cp_O) (K' K : cp_K) (x1 : Int32) : Prop := ∃ r4 T2, KC (D + 7) m_Q_withPiece (fun G => [.ref (cp_b G + 21), va_rf (kr G K.1.1), .int 2, .int 1]) (ninit (kN K 9) K.1.1 14 0 ((kN K 9).2.1 21 2)) (fun G => some (va_rf (kr G r4))) T2 ∧ (o = (fun G => .inl (some (va_rf (kr G r4)))) ∧ K' = T2)
theorem b_Q_readPart_18 {D : Nat} {o : cp_G → cp_O} {K' K : cp_K} {x1 : Int32} (w : wp_Q_readPart_18 D o K' K x1) : JC (D + 8) m_Q_readPart o K' 18 (fun G => [(0, .ref (cp_b G + 21)), (1, .int x1)]) (fun _ => []) K := by
  unfold wp_Q_readPart_18 at w
  intro G H d n0 z0 hd
  show kV G H m_Q_readPart d n0 z0 (o G) K' 18 [(0, .ref (cp_b G + 21)), (1, .int x1)] [] K
  refine kv_p (fun _ _ _ _ _ _ v => vv_aload_n (pc := 18) d_Q_readPart_18 rfl v) ?_
  refine kv_86 (fun h1 => ?_)
  refine kw_new (pc := 19) (N := 7) d_Q_readPart_19 cp_ok9 cl_Q_36 rfl (by decide) kdef9 ?_
  refine kv_p (fun _ _ _ _ _ _ v => vv_dup (pc := 22) d_Q_readPart_22 (kr_cat _) v) ?_
  refine kv_p (fun _ _ _ _ _ _ v => vv_bipush (pc := 23) (v := 14) d_Q_readPart_23 rfl v) ?_
  refine kv_p (fun _ _ _ _ _ _ v => vv_iconst (pc := 25) (v := 0) d_Q_readPart_25 rfl v) ?_
  refine kv_p (fun _ _ _ _ _ _ v => vv_aload_n (pc := 26) d_Q_readPart_26 rfl v) ?_
  refine kw_gi (pc := 27) d_Q_readPart_27 fl_Q_19 (Or.inl ⟨by decide, rfl⟩) rfl rfl ?_
  refine kw_ci (pc := 30) (As := [.int 14, .int 0, .int ((kN K 9).2.1 21 2)]) (As0 := (fun G => [va_rf (kr G K.1.1), .int 14, .int 0, .int ((kN K 9).2.1 21 2)])) d_Q_readPart_30 (C_Ninit (nd_self h1)) rfl k_N_init ml_Q_38 (nd_self h1) (by omega) (by cases kr G K.1.1 <;> exact Nat.le_of_ble_eq_true rfl) ?_
  refine kv_p (fun _ _ _ _ _ _ v => vv_iconst (pc := 33) (v := 2) d_Q_readPart_33 rfl v) ?_
  refine kv_p (fun _ _ _ _ _ _ v => vv_iconst (pc := 34) (v := 1) d_Q_readPart_34 rfl v) ?_
  obtain ⟨r4, T2, c3, w⟩ := w
  refine kw_cv (pc := 35) (As := [va_rf (kr G K.1.1), .int 2, .int 1]) d_Q_readPart_35 c3 rfl k_Q_withPiece ml_Q_60 (Or.inl ⟨by decide, rfl⟩) (by omega) (Nat.le_of_ble_eq_true rfl) ?_
  obtain ⟨rfl, rfl⟩ := w
  exact kv_e (fun _ _ => vv_aret (pc := 38) d_Q_readPart_38 rfl (Or.inl ⟨_, rfl⟩) (cp_isr_rf _))
def wp_Q_readPart_141 (D : Nat) (o : cp_G → cp_O) (K' K : cp_K) (x1 : Int32) (p2 : Nat) : Prop := (o = (fun G => .inl (some (va_rf (kr G 0)))) ∧ K' = K)
theorem b_Q_readPart_141 {D : Nat} {o : cp_G → cp_O} {K' K : cp_K} {x1 : Int32} {p2 : Nat} (w : wp_Q_readPart_141 D o K' K x1 p2) : JC (D + 8) m_Q_readPart o K' 141 (fun G => [(0, .ref (cp_b G + 21)), (1, .int x1), (2, va_rf (kr G p2))]) (fun _ => []) K := by
  unfold wp_Q_readPart_141 at w
  intro G H d n0 z0 hd
  show kV G H m_Q_readPart d n0 z0 (o G) K' 141 [(0, .ref (cp_b G + 21)), (1, .int x1), (2, va_rf (kr G p2))] [] K
  refine kv_p (fun _ _ _ _ _ _ v => vv_iconst (pc := 141) (v := 0) d_Q_readPart_141 rfl v) ?_
  refine kv_p (fun _ _ _ _ _ _ v => vv_istore_n (pc := 142) d_Q_readPart_142 (Nat.le_of_ble_eq_true rfl) v) ?_
  refine kw_lv (lv := [(3, .int 0), (0, .ref (cp_b G + 21)), (1, .int x1), (2, va_rf (kr G p2))]) (by cases kr G p2 <;> rfl) ?_
  refine kv_p (fun _ _ _ _ _ _ v => vv_iload_n (pc := 143) d_Q_readPart_143 rfl v) ?_
  refine kv_p (fun _ _ _ _ _ _ v => vv_if_eq (pc := 144) (tgt := 157) d_Q_readPart_144 rfl (fun _ => v) (fun hn => absurd (by decide) hn)) ?_
  refine kw_null (pc := 157) d_Q_readPart_157 ?_
  obtain ⟨rfl, rfl⟩ := w
  exact kv_e (fun _ _ => vv_aret (pc := 158) d_Q_readPart_158 rfl (Or.inl ⟨_, rfl⟩) (cp_isr_rf _))
def wp_Q_piece_0 (D : Nat) (o : cp_G → cp_O) (K' K : cp_K) (x1 : Int32) (x2 : Int32) : Prop := qok K ∧ ((((if 97 ≤ (qpk K) ∧ (qpk K) ≤ 122 then 1 else 0) : Int32) = 0 → ((((if 48 ≤ (qpk K) ∧ (qpk K) ≤ 57 then 1 else 0) : Int32) = 0 → ((((if 65 ≤ (qpk K) ∧ (qpk K) ≤ 90 then 1 else 0) : Int32) = 0 → ((¬ (x1 : Int32) = 3 → ((¬ ((qpk K) : Int32) = 35 → ((¬ ((qpk K) : Int32) = 95 → (o = (fun G => .inl (some (va_rf (kr G 0)))) ∧ K' = K)) ∧ (((qpk K) : Int32) = 95 → ((¬ (x1 : Int32) = 1 → (o = (fun G => .inl (some (va_rf (kr G 0)))) ∧ K' = K)) ∧ ((x1 : Int32) = 1 → (o = (fun G => .inl (some (va_rf (kr G K.1.1)))) ∧ K' = (qlf K 4 0))))))) ∧ (((qpk K) : Int32) = 35 → (o = (fun G => .inl (some (va_rf (kr G K.1.1)))) ∧ K' = (qlf K 2 0))))) ∧ ((x1 : Int32) = 3 → ∃ r6 T4, KC (D + 7) m_Q_readSignedCode (fun G => [.ref (cp_b G + 21), .int (qpk K), .int x2]) K (fun G => some (va_rf (kr G r6))) T4 ∧ (o = (fun G => .inl (some (va_rf (kr G r6)))) ∧ K' = T4)))) ∧ (¬ ((if 65 ≤ (qpk K) ∧ (qpk K) ≤ 90 then 1 else 0) : Int32) = 0 → ∃ r9 T7, KC (D + 7) m_Q_readApplication (fun G => [.ref (cp_b G + 21), .int x1, .int x2]) K (fun G => some (va_rf (kr G r9))) T7 ∧ (o = (fun G => .inl (some (va_rf (kr G r9)))) ∧ K' = T7)))) ∧ (¬ ((if 48 ≤ (qpk K) ∧ (qpk K) ≤ 57 then 1 else 0) : Int32) = 0 → (o = (fun G => .inl (some (va_rf (kr G K.1.1)))) ∧ K' = (qlf K 1 ((qpk K) - 48)))))) ∧ (¬ ((if 97 ≤ (qpk K) ∧ (qpk K) ≤ 122 then 1 else 0) : Int32) = 0 → (o = (fun G => .inl (some (va_rf (kr G K.1.1)))) ∧ K' = (qlf K 5 (qpk K)))))
theorem b_Q_piece_0 {D : Nat} {o : cp_G → cp_O} {K' K : cp_K} {x1 : Int32} {x2 : Int32} (w : wp_Q_piece_0 D o K' K x1 x2) : JC (D + 8) m_Q_piece o K' 0 (fun G => [(0, .ref (cp_b G + 21)), (1, .int x1), (2, .int x2)]) (fun _ => []) K := by
  unfold wp_Q_piece_0 at w
  intro G H d n0 z0 hd
  show kV G H m_Q_piece d n0 z0 (o G) K' 0 [(0, .ref (cp_b G + 21)), (1, .int x1), (2, .int x2)] [] K
  refine kv_p (fun _ _ _ _ _ _ v => vv_aload_n (pc := 0) d_Q_piece_0 rfl v) ?_
  obtain ⟨b1, w⟩ := w
  refine kw_cv (pc := 1) (As := []) (As0 := (fun G => [.ref (cp_b G + 21)])) d_Q_piece_1 (C_Qpeek b1) rfl k_Q_peek ml_Q_53 (Or.inl ⟨by decide, rfl⟩) (by omega) (Nat.le_of_ble_eq_true rfl) ?_
  refine kv_p (fun _ _ _ _ _ _ v => vv_istore_n (pc := 4) d_Q_piece_4 (Nat.le_of_ble_eq_true rfl) v) ?_
  refine kv_p (fun _ _ _ _ _ _ v => vv_iload_n (pc := 5) d_Q_piece_5 rfl v) ?_
  refine kw_csn (pc := 6) (As := [.int (qpk K)]) d_Q_piece_6 (SC_P_isVariable (qpk K)) k_P_isVariable nl_Q_79 ks_P_isVariable (by omega) (Nat.le_of_ble_eq_true rfl) ?_
  by_cases hc : ((if 97 ≤ (qpk K) ∧ (qpk K) ≤ 122 then 1 else 0) : Int32) = 0
  · replace w := w.1 hc
    refine kv_p (fun _ _ _ _ _ _ v => vv_if_eq (pc := 9) (tgt := 19) d_Q_piece_9 rfl (fun _ => v) (fun hn => absurd hc hn)) ?_
    refine kv_p (fun _ _ _ _ _ _ v => vv_iload_n (pc := 19) d_Q_piece_19 rfl v) ?_
    refine kw_csn (pc := 20) (As := [.int (qpk K)]) d_Q_piece_20 (SC_P_isDigit (qpk K)) k_P_isDigit nl_Q_82 ks_P_isDigit (by omega) (Nat.le_of_ble_eq_true rfl) ?_
    by_cases hc : ((if 48 ≤ (qpk K) ∧ (qpk K) ≤ 57 then 1 else 0) : Int32) = 0
    · replace w := w.1 hc
      refine kv_p (fun _ _ _ _ _ _ v => vv_if_eq (pc := 23) (tgt := 36) d_Q_piece_23 rfl (fun _ => v) (fun hn => absurd hc hn)) ?_
      refine kv_p (fun _ _ _ _ _ _ v => vv_iload_n (pc := 36) d_Q_piece_36 rfl v) ?_
      refine kw_csn (pc := 37) (As := [.int (qpk K)]) d_Q_piece_37 (SC_P_isLetter (qpk K)) k_P_isLetter nl_Q_76 ks_P_isLetter (by omega) (Nat.le_of_ble_eq_true rfl) ?_
      by_cases hc : ((if 65 ≤ (qpk K) ∧ (qpk K) ≤ 90 then 1 else 0) : Int32) = 0
      · replace w := w.1 hc
        refine kv_p (fun _ _ _ _ _ _ v => vv_if_eq (pc := 40) (tgt := 50) d_Q_piece_40 rfl (fun _ => v) (fun hn => absurd hc hn)) ?_
        refine kv_p (fun _ _ _ _ _ _ v => vv_iload_n (pc := 50) d_Q_piece_50 rfl v) ?_
        refine kv_p (fun _ _ _ _ _ _ v => vv_iconst (pc := 51) (v := 3) d_Q_piece_51 rfl v) ?_
        by_cases hc : (x1 : Int32) = 3
        · replace w := w.2 hc
          refine kv_p (fun _ _ _ _ _ _ v => vv_icmp_ne (pc := 52) (tgt := 62) d_Q_piece_52 rfl (fun hn => absurd hc hn) (fun _ => v)) ?_
          refine kv_p (fun _ _ _ _ _ _ v => vv_aload_n (pc := 55) d_Q_piece_55 rfl v) ?_
          refine kv_p (fun _ _ _ _ _ _ v => vv_iload_n (pc := 56) d_Q_piece_56 rfl v) ?_
          refine kv_p (fun _ _ _ _ _ _ v => vv_iload_n (pc := 57) d_Q_piece_57 rfl v) ?_
          obtain ⟨r6, T4, c5, w⟩ := w
          refine kw_cv (pc := 58) (As := [.int (qpk K), .int x2]) d_Q_piece_58 c5 rfl k_Q_readSignedCode ml_Q_88 (Or.inl ⟨by decide, rfl⟩) (by omega) (Nat.le_of_ble_eq_true rfl) ?_
          obtain ⟨rfl, rfl⟩ := w
          exact kv_e (fun _ _ => vv_aret (pc := 61) d_Q_piece_61 rfl (Or.inl ⟨_, rfl⟩) (cp_isr_rf _))
        · replace w := w.1 hc
          refine kv_p (fun _ _ _ _ _ _ v => vv_icmp_ne (pc := 52) (tgt := 62) d_Q_piece_52 rfl (fun _ => v) (fun hn => absurd hn hc)) ?_
          refine kv_p (fun _ _ _ _ _ _ v => vv_iload_n (pc := 62) d_Q_piece_62 rfl v) ?_
          refine kv_p (fun _ _ _ _ _ _ v => vv_bipush (pc := 63) (v := 35) d_Q_piece_63 rfl v) ?_
          by_cases hc : ((qpk K) : Int32) = 35
          · replace w := w.2 hc
            refine kv_p (fun _ _ _ _ _ _ v => vv_icmp_ne (pc := 65) (tgt := 75) d_Q_piece_65 rfl (fun hn => absurd hc hn) (fun _ => v)) ?_
            refine kv_p (fun _ _ _ _ _ _ v => vv_aload_n (pc := 68) d_Q_piece_68 rfl v) ?_
            refine kv_p (fun _ _ _ _ _ _ v => vv_iconst (pc := 69) (v := 2) d_Q_piece_69 rfl v) ?_
            refine kv_p (fun _ _ _ _ _ _ v => vv_iconst (pc := 70) (v := 0) d_Q_piece_70 rfl v) ?_
            refine kv_86 (fun h3 => ?_)
            refine kw_cv (pc := 71) (As := [.int 2, .int 0]) (As0 := (fun G => [.ref (cp_b G + 21), .int 2, .int 0])) d_Q_piece_71 (C_Qleaf h3) rfl k_Q_leaf ml_Q_57 (Or.inl ⟨by decide, rfl⟩) (by omega) (Nat.le_of_ble_eq_true rfl) ?_
            obtain ⟨rfl, rfl⟩ := w
            exact kv_e (fun _ _ => vv_aret (pc := 74) d_Q_piece_74 rfl (Or.inl ⟨_, rfl⟩) (cp_isr_rf _))
          · replace w := w.1 hc
            refine kv_p (fun _ _ _ _ _ _ v => vv_icmp_ne (pc := 65) (tgt := 75) d_Q_piece_65 rfl (fun _ => v) (fun hn => absurd hn hc)) ?_
            refine kv_p (fun _ _ _ _ _ _ v => vv_iload_n (pc := 75) d_Q_piece_75 rfl v) ?_
            refine kv_p (fun _ _ _ _ _ _ v => vv_bipush (pc := 76) (v := 95) d_Q_piece_76 rfl v) ?_
            by_cases hc : ((qpk K) : Int32) = 95
            · replace w := w.2 hc
              refine kv_p (fun _ _ _ _ _ _ v => vv_icmp_ne (pc := 78) (tgt := 95) d_Q_piece_78 rfl (fun hn => absurd hc hn) (fun _ => v)) ?_
              refine kv_p (fun _ _ _ _ _ _ v => vv_iload_n (pc := 81) d_Q_piece_81 rfl v) ?_
              refine kv_p (fun _ _ _ _ _ _ v => vv_iconst (pc := 82) (v := 1) d_Q_piece_82 rfl v) ?_
              by_cases hc : (x1 : Int32) = 1
              · replace w := w.2 hc
                refine kv_p (fun _ _ _ _ _ _ v => vv_icmp_ne (pc := 83) (tgt := 95) d_Q_piece_83 rfl (fun hn => absurd hc hn) (fun _ => v)) ?_
                refine kv_p (fun _ _ _ _ _ _ v => vv_aload_n (pc := 86) d_Q_piece_86 rfl v) ?_
                refine kv_p (fun _ _ _ _ _ _ v => vv_iconst (pc := 87) (v := 4) d_Q_piece_87 rfl v) ?_
                refine kv_p (fun _ _ _ _ _ _ v => vv_iconst (pc := 88) (v := 0) d_Q_piece_88 rfl v) ?_
                refine kv_86 (fun h2 => ?_)
                refine kw_cv (pc := 89) (As := [.int 4, .int 0]) (As0 := (fun G => [.ref (cp_b G + 21), .int 4, .int 0])) d_Q_piece_89 (C_Qleaf h2) rfl k_Q_leaf ml_Q_57 (Or.inl ⟨by decide, rfl⟩) (by omega) (Nat.le_of_ble_eq_true rfl) ?_
                refine kv_p (fun _ _ _ _ _ _ v => vv_goto (pc := 92) (tgt := 96) d_Q_piece_92 rfl v) ?_
                obtain ⟨rfl, rfl⟩ := w
                exact kv_e (fun _ _ => vv_aret (pc := 96) d_Q_piece_96 rfl (Or.inl ⟨_, rfl⟩) (cp_isr_rf _))
              · replace w := w.1 hc
                refine kv_p (fun _ _ _ _ _ _ v => vv_icmp_ne (pc := 83) (tgt := 95) d_Q_piece_83 rfl (fun _ => v) (fun hn => absurd hn hc)) ?_
                refine kw_null (pc := 95) d_Q_piece_95 ?_
                obtain ⟨rfl, rfl⟩ := w
                exact kv_e (fun _ _ => vv_aret (pc := 96) d_Q_piece_96 rfl (Or.inl ⟨_, rfl⟩) (cp_isr_rf _))
            · replace w := w.1 hc
              refine kv_p (fun _ _ _ _ _ _ v => vv_icmp_ne (pc := 78) (tgt := 95) d_Q_piece_78 rfl (fun _ => v) (fun hn => absurd hn hc)) ?_
              refine kw_null (pc := 95) d_Q_piece_95 ?_
              obtain ⟨rfl, rfl⟩ := w
              exact kv_e (fun _ _ => vv_aret (pc := 96) d_Q_piece_96 rfl (Or.inl ⟨_, rfl⟩) (cp_isr_rf _))
      · replace w := w.2 hc
        refine kv_p (fun _ _ _ _ _ _ v => vv_if_eq (pc := 40) (tgt := 50) d_Q_piece_40 rfl (fun hn => absurd hn hc) (fun _ => v)) ?_
        refine kv_p (fun _ _ _ _ _ _ v => vv_aload_n (pc := 43) d_Q_piece_43 rfl v) ?_
        refine kv_p (fun _ _ _ _ _ _ v => vv_iload_n (pc := 44) d_Q_piece_44 rfl v) ?_
        refine kv_p (fun _ _ _ _ _ _ v => vv_iload_n (pc := 45) d_Q_piece_45 rfl v) ?_
        obtain ⟨r9, T7, c8, w⟩ := w
        refine kw_cv (pc := 46) (As := [.int x1, .int x2]) d_Q_piece_46 c8 rfl k_Q_readApplication ml_Q_85 (Or.inl ⟨by decide, rfl⟩) (by omega) (Nat.le_of_ble_eq_true rfl) ?_
        obtain ⟨rfl, rfl⟩ := w
        exact kv_e (fun _ _ => vv_aret (pc := 49) d_Q_piece_49 rfl (Or.inl ⟨_, rfl⟩) (cp_isr_rf _))
    · replace w := w.2 hc
      refine kv_p (fun _ _ _ _ _ _ v => vv_if_eq (pc := 23) (tgt := 36) d_Q_piece_23 rfl (fun hn => absurd hn hc) (fun _ => v)) ?_
      refine kv_p (fun _ _ _ _ _ _ v => vv_aload_n (pc := 26) d_Q_piece_26 rfl v) ?_
      refine kv_p (fun _ _ _ _ _ _ v => vv_iconst (pc := 27) (v := 1) d_Q_piece_27 rfl v) ?_
      refine kv_p (fun _ _ _ _ _ _ v => vv_iload_n (pc := 28) d_Q_piece_28 rfl v) ?_
      refine kv_p (fun _ _ _ _ _ _ v => vv_bipush (pc := 29) (v := 48) d_Q_piece_29 rfl v) ?_
      refine kv_p (fun _ _ _ _ _ _ v => vv_isub (pc := 31) d_Q_piece_31 v) ?_
      refine kv_86 (fun h10 => ?_)
      refine kw_cv (pc := 32) (As := [.int 1, .int ((qpk K) - 48)]) (As0 := (fun G => [.ref (cp_b G + 21), .int 1, .int ((qpk K) - 48)])) d_Q_piece_32 (C_Qleaf h10) rfl k_Q_leaf ml_Q_57 (Or.inl ⟨by decide, rfl⟩) (by omega) (Nat.le_of_ble_eq_true rfl) ?_
      obtain ⟨rfl, rfl⟩ := w
      exact kv_e (fun _ _ => vv_aret (pc := 35) d_Q_piece_35 rfl (Or.inl ⟨_, rfl⟩) (cp_isr_rf _))
  · replace w := w.2 hc
    refine kv_p (fun _ _ _ _ _ _ v => vv_if_eq (pc := 9) (tgt := 19) d_Q_piece_9 rfl (fun hn => absurd hn hc) (fun _ => v)) ?_
    refine kv_p (fun _ _ _ _ _ _ v => vv_aload_n (pc := 12) d_Q_piece_12 rfl v) ?_
    refine kv_p (fun _ _ _ _ _ _ v => vv_iconst (pc := 13) (v := 5) d_Q_piece_13 rfl v) ?_
    refine kv_p (fun _ _ _ _ _ _ v => vv_iload_n (pc := 14) d_Q_piece_14 rfl v) ?_
    refine kv_86 (fun h11 => ?_)
    refine kw_cv (pc := 15) (As := [.int 5, .int (qpk K)]) (As0 := (fun G => [.ref (cp_b G + 21), .int 5, .int (qpk K)])) d_Q_piece_15 (C_Qleaf h11) rfl k_Q_leaf ml_Q_57 (Or.inl ⟨by decide, rfl⟩) (by omega) (Nat.le_of_ble_eq_true rfl) ?_
    obtain ⟨rfl, rfl⟩ := w
    exact kv_e (fun _ _ => vv_aret (pc := 18) d_Q_piece_18 rfl (Or.inl ⟨_, rfl⟩) (cp_isr_rf _))
theorem c_Q_piece {D : Nat} {o : cp_G → Option Value} {K' K : cp_K} {x1 : Int32} {x2 : Int32} (w : wp_Q_piece_0 D (fun G => .inl (o G)) K' K x1 x2) : KC (D + 8) m_Q_piece (fun G => [.ref (cp_b G + 21), .int x1, .int x2]) K o K' := KC.of2 rfl (fun G => by exact ⟨Nat.le_of_ble_eq_true rfl, rfl⟩) (b_Q_piece_0 w)
def wp_Q_readApplication_0 (D : Nat) (o : cp_G → cp_O) (K' K : cp_K) (x1 : Int32) (x2 : Int32) : Prop := qok K ∧ ((¬ (x1 : Int32) = 3 → ((8 ≤ (x2 : Int32) → (o = (fun G => .inl (some (va_rf (kr G K.1.1)))) ∧ K' = (qlf K 6 (qpk K)))) ∧ (¬ 8 ≤ (x2 : Int32) → ((¬ ((if qpk (qlf K 6 (qpk K)) = 40 then 1 else 0) : Int32) = 0 → ∃ r5 T3, KC (D + 7) m_Q_readPieces (fun G => [.ref (cp_b G + 21), va_rf (kr G K.1.1), .int x1, .int (x2 + 1), .int 41]) (qtk (qlf K 6 (qpk K)) 40) (fun _ => some (.int r5)) T3 ∧ (((r5 : Int32) = 0 → (o = (fun G => .inl (some (va_rf (kr G 0)))) ∧ K' = T3)) ∧ (¬ (r5 : Int32) = 0 → (o = (fun G => .inl (some (va_rf (kr G K.1.1)))) ∧ K' = T3)))) ∧ (((if qpk (qlf K 6 (qpk K)) = 40 then 1 else 0) : Int32) = 0 → (o = (fun G => .inl (some (va_rf (kr G K.1.1)))) ∧ K' = (qtk (qlf K 6 (qpk K)) 40))))))) ∧ ((x1 : Int32) = 3 → ((12 ≤ (x2 : Int32) → (o = (fun G => .inl (some (va_rf (kr G K.1.1)))) ∧ K' = (qlf K 6 (qpk K)))) ∧ (¬ 12 ≤ (x2 : Int32) → ((¬ ((if qpk (qlf K 6 (qpk K)) = 40 then 1 else 0) : Int32) = 0 → ∃ r8 T6, KC (D + 7) m_Q_readPieces (fun G => [.ref (cp_b G + 21), va_rf (kr G K.1.1), .int x1, .int (x2 + 1), .int 41]) (qtk (qlf K 6 (qpk K)) 40) (fun _ => some (.int r8)) T6 ∧ (((r8 : Int32) = 0 → (o = (fun G => .inl (some (va_rf (kr G 0)))) ∧ K' = T6)) ∧ (¬ (r8 : Int32) = 0 → (o = (fun G => .inl (some (va_rf (kr G K.1.1)))) ∧ K' = T6)))) ∧ (((if qpk (qlf K 6 (qpk K)) = 40 then 1 else 0) : Int32) = 0 → (o = (fun G => .inl (some (va_rf (kr G K.1.1)))) ∧ K' = (qtk (qlf K 6 (qpk K)) 40))))))))
theorem b_Q_readApplication_0 {D : Nat} {o : cp_G → cp_O} {K' K : cp_K} {x1 : Int32} {x2 : Int32} (w : wp_Q_readApplication_0 D o K' K x1 x2) : JC (D + 8) m_Q_readApplication o K' 0 (fun G => [(0, .ref (cp_b G + 21)), (1, .int x1), (2, .int x2)]) (fun _ => []) K := by
  unfold wp_Q_readApplication_0 at w
  intro G H d n0 z0 hd
  show kV G H m_Q_readApplication d n0 z0 (o G) K' 0 [(0, .ref (cp_b G + 21)), (1, .int x1), (2, .int x2)] [] K
  refine kv_p (fun _ _ _ _ _ _ v => vv_aload_n (pc := 0) d_Q_readApplication_0 rfl v) ?_
  refine kv_p (fun _ _ _ _ _ _ v => vv_bipush (pc := 1) (v := 6) d_Q_readApplication_1 rfl v) ?_
  refine kv_p (fun _ _ _ _ _ _ v => vv_aload_n (pc := 3) d_Q_readApplication_3 rfl v) ?_
  obtain ⟨b1, w⟩ := w
  refine kw_cv (pc := 4) (As := []) (As0 := (fun G => [.ref (cp_b G + 21)])) d_Q_readApplication_4 (C_Qpeek b1) rfl k_Q_peek ml_Q_53 (Or.inl ⟨by decide, rfl⟩) (by omega) (Nat.le_of_ble_eq_true rfl) ?_
  refine kv_86 (fun h2 => ?_)
  refine kw_cv (pc := 7) (As := [.int 6, .int (qpk K)]) (As0 := (fun G => [.ref (cp_b G + 21), .int 6, .int (qpk K)])) d_Q_readApplication_7 (C_Qleaf h2) rfl k_Q_leaf ml_Q_57 (Or.inl ⟨by decide, rfl⟩) (by omega) (Nat.le_of_ble_eq_true rfl) ?_
  refine kv_p (fun _ _ _ _ _ _ v => vv_astore_n (pc := 10) d_Q_readApplication_10 (cp_isr_rf (kr G K.1.1)) (Nat.le_of_ble_eq_true rfl) v) ?_
  refine kv_p (fun _ _ _ _ _ _ v => vv_iload_n (pc := 11) d_Q_readApplication_11 rfl v) ?_
  refine kv_p (fun _ _ _ _ _ _ v => vv_iconst (pc := 12) (v := 3) d_Q_readApplication_12 rfl v) ?_
  by_cases hc : (x1 : Int32) = 3
  · replace w := w.2 hc
    refine kv_p (fun _ _ _ _ _ _ v => vv_icmp_ne (pc := 13) (tgt := 21) d_Q_readApplication_13 rfl (fun hn => absurd hc hn) (fun _ => v)) ?_
    refine kv_p (fun _ _ _ _ _ _ v => vv_bipush (pc := 16) (v := 12) d_Q_readApplication_16 rfl v) ?_
    refine kv_p (fun _ _ _ _ _ _ v => vv_goto (pc := 18) (tgt := 23) d_Q_readApplication_18 rfl v) ?_
    refine kv_p (fun _ _ _ _ _ _ v => vv_istore (pc := 23) d_Q_readApplication_23 (Nat.le_of_ble_eq_true rfl) v) ?_
    refine kw_lv (lv := [(4, .int 12), (3, va_rf (kr G K.1.1)), (0, .ref (cp_b G + 21)), (1, .int x1), (2, .int x2)]) (by cases kr G K.1.1 <;> rfl) ?_
    refine kv_p (fun _ _ _ _ _ _ v => vv_iload_n (pc := 25) d_Q_readApplication_25 rfl v) ?_
    refine kv_p (fun _ _ _ _ _ _ v => vv_iload (pc := 26) d_Q_readApplication_26 rfl v) ?_
    by_cases hc : 12 ≤ (x2 : Int32)
    · replace w := w.1 hc
      refine kv_p (fun _ _ _ _ _ _ v => vv_icmp_ge (pc := 28) (tgt := 40) d_Q_readApplication_28 rfl (fun _ => v) (fun hn => absurd hc hn)) ?_
      refine kv_p (fun _ _ _ _ _ _ v => vv_aload_nr (pc := 40) d_Q_readApplication_40 (cp_isr_rf (kr G K.1.1)) rfl v) ?_
      obtain ⟨rfl, rfl⟩ := w
      exact kv_e (fun _ _ => vv_aret (pc := 41) d_Q_readApplication_41 rfl (Or.inl ⟨_, rfl⟩) (cp_isr_rf _))
    · replace w := w.2 hc
      refine kv_p (fun _ _ _ _ _ _ v => vv_icmp_ge (pc := 28) (tgt := 40) d_Q_readApplication_28 rfl (fun hn => absurd hn hc) (fun _ => v)) ?_
      refine kv_p (fun _ _ _ _ _ _ v => vv_aload_n (pc := 31) d_Q_readApplication_31 rfl v) ?_
      refine kv_p (fun _ _ _ _ _ _ v => vv_bipush (pc := 32) (v := 40) d_Q_readApplication_32 rfl v) ?_
      refine kw_cv (pc := 34) (As := [.int 40]) (As0 := (fun G => [.ref (cp_b G + 21), .int 40])) d_Q_readApplication_34 (C_Qtake (qok_qlf b1 h2)) rfl k_Q_take ml_Q_68 (Or.inl ⟨by decide, rfl⟩) (by omega) (Nat.le_of_ble_eq_true rfl) ?_
      by_cases hc : ((if qpk (qlf K 6 (qpk K)) = 40 then 1 else 0) : Int32) = 0
      · replace w := w.2 hc
        refine kv_p (fun _ _ _ _ _ _ v => vv_if_ne (pc := 37) (tgt := 42) d_Q_readApplication_37 rfl (fun hn => absurd hc hn) (fun _ => v)) ?_
        refine kv_p (fun _ _ _ _ _ _ v => vv_aload_nr (pc := 40) d_Q_readApplication_40 (cp_isr_rf (kr G K.1.1)) rfl v) ?_
        obtain ⟨rfl, rfl⟩ := w
        exact kv_e (fun _ _ => vv_aret (pc := 41) d_Q_readApplication_41 rfl (Or.inl ⟨_, rfl⟩) (cp_isr_rf _))
      · replace w := w.1 hc
        refine kv_p (fun _ _ _ _ _ _ v => vv_if_ne (pc := 37) (tgt := 42) d_Q_readApplication_37 rfl (fun _ => v) (fun hn => absurd hn hc)) ?_
        refine kv_p (fun _ _ _ _ _ _ v => vv_aload_n (pc := 42) d_Q_readApplication_42 rfl v) ?_
        refine kv_p (fun _ _ _ _ _ _ v => vv_aload_nr (pc := 43) d_Q_readApplication_43 (cp_isr_rf (kr G K.1.1)) rfl v) ?_
        refine kv_p (fun _ _ _ _ _ _ v => vv_iload_n (pc := 44) d_Q_readApplication_44 rfl v) ?_
        refine kv_p (fun _ _ _ _ _ _ v => vv_iload_n (pc := 45) d_Q_readApplication_45 rfl v) ?_
        refine kv_p (fun _ _ _ _ _ _ v => vv_iconst (pc := 46) (v := 1) d_Q_readApplication_46 rfl v) ?_
        refine kv_p (fun _ _ _ _ _ _ v => vv_iadd (pc := 47) d_Q_readApplication_47 v) ?_
        refine kv_p (fun _ _ _ _ _ _ v => vv_bipush (pc := 48) (v := 41) d_Q_readApplication_48 rfl v) ?_
        obtain ⟨r8, T6, c7, w⟩ := w
        refine kw_cv (pc := 50) (As := [va_rf (kr G K.1.1), .int x1, .int (x2 + 1), .int 41]) d_Q_readApplication_50 c7 rfl k_Q_readPieces ml_Q_41 (Or.inl ⟨by decide, rfl⟩) (by omega) (Nat.le_of_ble_eq_true rfl) ?_
        by_cases hc : (r8 : Int32) = 0
        · replace w := w.1 hc
          refine kv_p (fun _ _ _ _ _ _ v => vv_if_eq (pc := 53) (tgt := 60) d_Q_readApplication_53 rfl (fun _ => v) (fun hn => absurd hc hn)) ?_
          refine kw_null (pc := 60) d_Q_readApplication_60 ?_
          obtain ⟨rfl, rfl⟩ := w
          exact kv_e (fun _ _ => vv_aret (pc := 61) d_Q_readApplication_61 rfl (Or.inl ⟨_, rfl⟩) (cp_isr_rf _))
        · replace w := w.2 hc
          refine kv_p (fun _ _ _ _ _ _ v => vv_if_eq (pc := 53) (tgt := 60) d_Q_readApplication_53 rfl (fun hn => absurd hn hc) (fun _ => v)) ?_
          refine kv_p (fun _ _ _ _ _ _ v => vv_aload_nr (pc := 56) d_Q_readApplication_56 (cp_isr_rf (kr G K.1.1)) rfl v) ?_
          refine kv_p (fun _ _ _ _ _ _ v => vv_goto (pc := 57) (tgt := 61) d_Q_readApplication_57 rfl v) ?_
          obtain ⟨rfl, rfl⟩ := w
          exact kv_e (fun _ _ => vv_aret (pc := 61) d_Q_readApplication_61 rfl (Or.inl ⟨_, rfl⟩) (cp_isr_rf _))
  · replace w := w.1 hc
    refine kv_p (fun _ _ _ _ _ _ v => vv_icmp_ne (pc := 13) (tgt := 21) d_Q_readApplication_13 rfl (fun _ => v) (fun hn => absurd hn hc)) ?_
    refine kv_p (fun _ _ _ _ _ _ v => vv_bipush (pc := 21) (v := 8) d_Q_readApplication_21 rfl v) ?_
    refine kv_p (fun _ _ _ _ _ _ v => vv_istore (pc := 23) d_Q_readApplication_23 (Nat.le_of_ble_eq_true rfl) v) ?_
    refine kw_lv (lv := [(4, .int 8), (3, va_rf (kr G K.1.1)), (0, .ref (cp_b G + 21)), (1, .int x1), (2, .int x2)]) (by cases kr G K.1.1 <;> rfl) ?_
    refine kv_p (fun _ _ _ _ _ _ v => vv_iload_n (pc := 25) d_Q_readApplication_25 rfl v) ?_
    refine kv_p (fun _ _ _ _ _ _ v => vv_iload (pc := 26) d_Q_readApplication_26 rfl v) ?_
    by_cases hc : 8 ≤ (x2 : Int32)
    · replace w := w.1 hc
      refine kv_p (fun _ _ _ _ _ _ v => vv_icmp_ge (pc := 28) (tgt := 40) d_Q_readApplication_28 rfl (fun _ => v) (fun hn => absurd hc hn)) ?_
      refine kv_p (fun _ _ _ _ _ _ v => vv_aload_nr (pc := 40) d_Q_readApplication_40 (cp_isr_rf (kr G K.1.1)) rfl v) ?_
      obtain ⟨rfl, rfl⟩ := w
      exact kv_e (fun _ _ => vv_aret (pc := 41) d_Q_readApplication_41 rfl (Or.inl ⟨_, rfl⟩) (cp_isr_rf _))
    · replace w := w.2 hc
      refine kv_p (fun _ _ _ _ _ _ v => vv_icmp_ge (pc := 28) (tgt := 40) d_Q_readApplication_28 rfl (fun hn => absurd hn hc) (fun _ => v)) ?_
      refine kv_p (fun _ _ _ _ _ _ v => vv_aload_n (pc := 31) d_Q_readApplication_31 rfl v) ?_
      refine kv_p (fun _ _ _ _ _ _ v => vv_bipush (pc := 32) (v := 40) d_Q_readApplication_32 rfl v) ?_
      refine kw_cv (pc := 34) (As := [.int 40]) (As0 := (fun G => [.ref (cp_b G + 21), .int 40])) d_Q_readApplication_34 (C_Qtake (qok_qlf b1 h2)) rfl k_Q_take ml_Q_68 (Or.inl ⟨by decide, rfl⟩) (by omega) (Nat.le_of_ble_eq_true rfl) ?_
      by_cases hc : ((if qpk (qlf K 6 (qpk K)) = 40 then 1 else 0) : Int32) = 0
      · replace w := w.2 hc
        refine kv_p (fun _ _ _ _ _ _ v => vv_if_ne (pc := 37) (tgt := 42) d_Q_readApplication_37 rfl (fun hn => absurd hc hn) (fun _ => v)) ?_
        refine kv_p (fun _ _ _ _ _ _ v => vv_aload_nr (pc := 40) d_Q_readApplication_40 (cp_isr_rf (kr G K.1.1)) rfl v) ?_
        obtain ⟨rfl, rfl⟩ := w
        exact kv_e (fun _ _ => vv_aret (pc := 41) d_Q_readApplication_41 rfl (Or.inl ⟨_, rfl⟩) (cp_isr_rf _))
      · replace w := w.1 hc
        refine kv_p (fun _ _ _ _ _ _ v => vv_if_ne (pc := 37) (tgt := 42) d_Q_readApplication_37 rfl (fun _ => v) (fun hn => absurd hn hc)) ?_
        refine kv_p (fun _ _ _ _ _ _ v => vv_aload_n (pc := 42) d_Q_readApplication_42 rfl v) ?_
        refine kv_p (fun _ _ _ _ _ _ v => vv_aload_nr (pc := 43) d_Q_readApplication_43 (cp_isr_rf (kr G K.1.1)) rfl v) ?_
        refine kv_p (fun _ _ _ _ _ _ v => vv_iload_n (pc := 44) d_Q_readApplication_44 rfl v) ?_
        refine kv_p (fun _ _ _ _ _ _ v => vv_iload_n (pc := 45) d_Q_readApplication_45 rfl v) ?_
        refine kv_p (fun _ _ _ _ _ _ v => vv_iconst (pc := 46) (v := 1) d_Q_readApplication_46 rfl v) ?_
        refine kv_p (fun _ _ _ _ _ _ v => vv_iadd (pc := 47) d_Q_readApplication_47 v) ?_
        refine kv_p (fun _ _ _ _ _ _ v => vv_bipush (pc := 48) (v := 41) d_Q_readApplication_48 rfl v) ?_
        obtain ⟨r5, T3, c4, w⟩ := w
        refine kw_cv (pc := 50) (As := [va_rf (kr G K.1.1), .int x1, .int (x2 + 1), .int 41]) d_Q_readApplication_50 c4 rfl k_Q_readPieces ml_Q_41 (Or.inl ⟨by decide, rfl⟩) (by omega) (Nat.le_of_ble_eq_true rfl) ?_
        by_cases hc : (r5 : Int32) = 0
        · replace w := w.1 hc
          refine kv_p (fun _ _ _ _ _ _ v => vv_if_eq (pc := 53) (tgt := 60) d_Q_readApplication_53 rfl (fun _ => v) (fun hn => absurd hc hn)) ?_
          refine kw_null (pc := 60) d_Q_readApplication_60 ?_
          obtain ⟨rfl, rfl⟩ := w
          exact kv_e (fun _ _ => vv_aret (pc := 61) d_Q_readApplication_61 rfl (Or.inl ⟨_, rfl⟩) (cp_isr_rf _))
        · replace w := w.2 hc
          refine kv_p (fun _ _ _ _ _ _ v => vv_if_eq (pc := 53) (tgt := 60) d_Q_readApplication_53 rfl (fun hn => absurd hn hc) (fun _ => v)) ?_
          refine kv_p (fun _ _ _ _ _ _ v => vv_aload_nr (pc := 56) d_Q_readApplication_56 (cp_isr_rf (kr G K.1.1)) rfl v) ?_
          refine kv_p (fun _ _ _ _ _ _ v => vv_goto (pc := 57) (tgt := 61) d_Q_readApplication_57 rfl v) ?_
          obtain ⟨rfl, rfl⟩ := w
          exact kv_e (fun _ _ => vv_aret (pc := 61) d_Q_readApplication_61 rfl (Or.inl ⟨_, rfl⟩) (cp_isr_rf _))
theorem c_Q_readApplication {D : Nat} {o : cp_G → Option Value} {K' K : cp_K} {x1 : Int32} {x2 : Int32} (w : wp_Q_readApplication_0 D (fun G => .inl (o G)) K' K x1 x2) : KC (D + 8) m_Q_readApplication (fun G => [.ref (cp_b G + 21), .int x1, .int x2]) K o K' := KC.of2 rfl (fun G => by exact ⟨Nat.le_of_ble_eq_true rfl, rfl⟩) (b_Q_readApplication_0 w)
def wp_Q_readSignedCode_0 (D : Nat) (o : cp_G → cp_O) (K' K : cp_K) (x1 : Int32) (x2 : Int32) : Prop := ((¬ (x1 : Int32) = 126 → (((x2 : Int32) < 12 → ((x1 = (43 : Int32) → ∃ r4 T2, KC (D + 7) m_Q_readSum (fun G => [.ref (cp_b G + 21), va_rf (kr G K.1.1), .int (x2 + 1)]) (qlf K 7 0) (fun G => some (va_rf (kr G r4))) T2 ∧ (o = (fun G => .inl (some (va_rf (kr G r4)))) ∧ K' = T2)) ∧ (x1 = (45 : Int32) → ∃ r8 T6, KC (D + 7) m_Q_readSum (fun G => [.ref (cp_b G + 21), va_rf (kr G K.1.1), .int (x2 + 1)]) (qlf K 8 0) (fun G => some (va_rf (kr G r8))) T6 ∧ (o = (fun G => .inl (some (va_rf (kr G r8)))) ∧ K' = T6)) ∧ (x1 = (91 : Int32) → ∃ r11 T9, KC (D + 7) m_Q_readChoice (fun G => [.ref (cp_b G + 21), .int (x2 + 1)]) K (fun G => some (va_rf (kr G r11))) T9 ∧ (o = (fun G => .inl (some (va_rf (kr G r11)))) ∧ K' = T9)) ∧ (x1 = (123 : Int32) → ∃ r15 T13, KC (D + 7) m_Q_readMatch (fun G => [.ref (cp_b G + 21), va_rf (kr G K.1.1), .int (x2 + 1)]) (qlf K 9 0) (fun G => some (va_rf (kr G r15))) T13 ∧ (o = (fun G => .inl (some (va_rf (kr G r15)))) ∧ K' = T13)) ∧ ((∀ c ∈ ([43, 45, 91, 123] : List Int32), ¬ x1 = c) → (o = (fun G => .inl (some (va_rf (kr G 0)))) ∧ K' = K)))) ∧ (¬ (x2 : Int32) < 12 → (o = (fun G => .inl (some (va_rf (kr G 0)))) ∧ K' = K)))) ∧ ((x1 : Int32) = 126 → (o = (fun G => .inl (some (va_rf (kr G K.1.1)))) ∧ K' = (qlf K 13 0))))
theorem b_Q_readSignedCode_0 {D : Nat} {o : cp_G → cp_O} {K' K : cp_K} {x1 : Int32} {x2 : Int32} (w : wp_Q_readSignedCode_0 D o K' K x1 x2) : JC (D + 8) m_Q_readSignedCode o K' 0 (fun G => [(0, .ref (cp_b G + 21)), (1, .int x1), (2, .int x2)]) (fun _ => []) K := by
  unfold wp_Q_readSignedCode_0 at w
  intro G H d n0 z0 hd
  show kV G H m_Q_readSignedCode d n0 z0 (o G) K' 0 [(0, .ref (cp_b G + 21)), (1, .int x1), (2, .int x2)] [] K
  refine kv_p (fun _ _ _ _ _ _ v => vv_iload_n (pc := 0) d_Q_readSignedCode_0 rfl v) ?_
  refine kv_p (fun _ _ _ _ _ _ v => vv_bipush (pc := 1) (v := 126) d_Q_readSignedCode_1 rfl v) ?_
  by_cases hc : (x1 : Int32) = 126
  · replace w := w.2 hc
    refine kv_p (fun _ _ _ _ _ _ v => vv_icmp_ne (pc := 3) (tgt := 14) d_Q_readSignedCode_3 rfl (fun hn => absurd hc hn) (fun _ => v)) ?_
    refine kv_p (fun _ _ _ _ _ _ v => vv_aload_n (pc := 6) d_Q_readSignedCode_6 rfl v) ?_
    refine kv_p (fun _ _ _ _ _ _ v => vv_bipush (pc := 7) (v := 13) d_Q_readSignedCode_7 rfl v) ?_
    refine kv_p (fun _ _ _ _ _ _ v => vv_iconst (pc := 9) (v := 0) d_Q_readSignedCode_9 rfl v) ?_
    refine kv_86 (fun h16 => ?_)
    refine kw_cv (pc := 10) (As := [.int 13, .int 0]) (As0 := (fun G => [.ref (cp_b G + 21), .int 13, .int 0])) d_Q_readSignedCode_10 (C_Qleaf h16) rfl k_Q_leaf ml_Q_57 (Or.inl ⟨by decide, rfl⟩) (by omega) (Nat.le_of_ble_eq_true rfl) ?_
    obtain ⟨rfl, rfl⟩ := w
    exact kv_e (fun _ _ => vv_aret (pc := 13) d_Q_readSignedCode_13 rfl (Or.inl ⟨_, rfl⟩) (cp_isr_rf _))
  · replace w := w.1 hc
    refine kv_p (fun _ _ _ _ _ _ v => vv_icmp_ne (pc := 3) (tgt := 14) d_Q_readSignedCode_3 rfl (fun _ => v) (fun hn => absurd hn hc)) ?_
    refine kv_p (fun _ _ _ _ _ _ v => vv_iload_n (pc := 14) d_Q_readSignedCode_14 rfl v) ?_
    refine kv_p (fun _ _ _ _ _ _ v => vv_bipush (pc := 15) (v := 12) d_Q_readSignedCode_15 rfl v) ?_
    by_cases hc : (x2 : Int32) < 12
    · replace w := w.1 hc
      refine kv_p (fun _ _ _ _ _ _ v => vv_icmp_lt (pc := 17) (tgt := 22) d_Q_readSignedCode_17 rfl (fun _ => v) (fun hn => absurd hc hn)) ?_
      refine kv_p (fun _ _ _ _ _ _ v => vv_iload_n (pc := 22) d_Q_readSignedCode_22 rfl v) ?_
      by_cases e23_0 : x1 = (43 : Int32)
      · replace w := w.1 e23_0
        refine kw_topi (y := 43) e23_0 ?_
        refine kv_p (fun _ _ _ _ _ _ v => vv_lookup (pc := 23) (off := 41) (tgt := 64) d_Q_readSignedCode_23 (by decide +kernel) (by decide +kernel) rfl v) ?_
        refine kv_p (fun _ _ _ _ _ _ v => vv_aload_n (pc := 64) d_Q_readSignedCode_64 rfl v) ?_
        refine kv_p (fun _ _ _ _ _ _ v => vv_aload_n (pc := 65) d_Q_readSignedCode_65 rfl v) ?_
        refine kv_p (fun _ _ _ _ _ _ v => vv_bipush (pc := 66) (v := 7) d_Q_readSignedCode_66 rfl v) ?_
        refine kv_p (fun _ _ _ _ _ _ v => vv_iconst (pc := 68) (v := 0) d_Q_readSignedCode_68 rfl v) ?_
        refine kv_86 (fun h1 => ?_)
        refine kw_cv (pc := 69) (As := [.int 7, .int 0]) (As0 := (fun G => [.ref (cp_b G + 21), .int 7, .int 0])) d_Q_readSignedCode_69 (C_Qleaf h1) rfl k_Q_leaf ml_Q_57 (Or.inl ⟨by decide, rfl⟩) (by omega) (Nat.le_of_ble_eq_true rfl) ?_
        refine kv_p (fun _ _ _ _ _ _ v => vv_iload_n (pc := 72) d_Q_readSignedCode_72 rfl v) ?_
        refine kv_p (fun _ _ _ _ _ _ v => vv_iconst (pc := 73) (v := 1) d_Q_readSignedCode_73 rfl v) ?_
        refine kv_p (fun _ _ _ _ _ _ v => vv_iadd (pc := 74) d_Q_readSignedCode_74 v) ?_
        obtain ⟨r4, T2, c3, w⟩ := w
        refine kw_cv (pc := 75) (As := [va_rf (kr G K.1.1), .int (x2 + 1)]) d_Q_readSignedCode_75 c3 rfl k_Q_readSum ml_Q_92 (Or.inl ⟨by decide, rfl⟩) (by omega) (Nat.le_of_ble_eq_true rfl) ?_
        obtain ⟨rfl, rfl⟩ := w
        exact kv_e (fun _ _ => vv_aret (pc := 78) d_Q_readSignedCode_78 rfl (Or.inl ⟨_, rfl⟩) (cp_isr_rf _))
      by_cases e23_1 : x1 = (45 : Int32)
      · replace w := w.2.1 e23_1
        refine kw_topi (y := 45) e23_1 ?_
        refine kv_p (fun _ _ _ _ _ _ v => vv_lookup (pc := 23) (off := 56) (tgt := 79) d_Q_readSignedCode_23 (by decide +kernel) (by decide +kernel) rfl v) ?_
        refine kv_p (fun _ _ _ _ _ _ v => vv_aload_n (pc := 79) d_Q_readSignedCode_79 rfl v) ?_
        refine kv_p (fun _ _ _ _ _ _ v => vv_aload_n (pc := 80) d_Q_readSignedCode_80 rfl v) ?_
        refine kv_p (fun _ _ _ _ _ _ v => vv_bipush (pc := 81) (v := 8) d_Q_readSignedCode_81 rfl v) ?_
        refine kv_p (fun _ _ _ _ _ _ v => vv_iconst (pc := 83) (v := 0) d_Q_readSignedCode_83 rfl v) ?_
        refine kv_86 (fun h5 => ?_)
        refine kw_cv (pc := 84) (As := [.int 8, .int 0]) (As0 := (fun G => [.ref (cp_b G + 21), .int 8, .int 0])) d_Q_readSignedCode_84 (C_Qleaf h5) rfl k_Q_leaf ml_Q_57 (Or.inl ⟨by decide, rfl⟩) (by omega) (Nat.le_of_ble_eq_true rfl) ?_
        refine kv_p (fun _ _ _ _ _ _ v => vv_iload_n (pc := 87) d_Q_readSignedCode_87 rfl v) ?_
        refine kv_p (fun _ _ _ _ _ _ v => vv_iconst (pc := 88) (v := 1) d_Q_readSignedCode_88 rfl v) ?_
        refine kv_p (fun _ _ _ _ _ _ v => vv_iadd (pc := 89) d_Q_readSignedCode_89 v) ?_
        obtain ⟨r8, T6, c7, w⟩ := w
        refine kw_cv (pc := 90) (As := [va_rf (kr G K.1.1), .int (x2 + 1)]) d_Q_readSignedCode_90 c7 rfl k_Q_readSum ml_Q_92 (Or.inl ⟨by decide, rfl⟩) (by omega) (Nat.le_of_ble_eq_true rfl) ?_
        obtain ⟨rfl, rfl⟩ := w
        exact kv_e (fun _ _ => vv_aret (pc := 93) d_Q_readSignedCode_93 rfl (Or.inl ⟨_, rfl⟩) (cp_isr_rf _))
      by_cases e23_2 : x1 = (91 : Int32)
      · replace w := w.2.2.1 e23_2
        refine kw_topi (y := 91) e23_2 ?_
        refine kv_p (fun _ _ _ _ _ _ v => vv_lookup (pc := 23) (off := 86) (tgt := 109) d_Q_readSignedCode_23 (by decide +kernel) (by decide +kernel) rfl v) ?_
        refine kv_p (fun _ _ _ _ _ _ v => vv_aload_n (pc := 109) d_Q_readSignedCode_109 rfl v) ?_
        refine kv_p (fun _ _ _ _ _ _ v => vv_iload_n (pc := 110) d_Q_readSignedCode_110 rfl v) ?_
        refine kv_p (fun _ _ _ _ _ _ v => vv_iconst (pc := 111) (v := 1) d_Q_readSignedCode_111 rfl v) ?_
        refine kv_p (fun _ _ _ _ _ _ v => vv_iadd (pc := 112) d_Q_readSignedCode_112 v) ?_
        obtain ⟨r11, T9, c10, w⟩ := w
        refine kw_cv (pc := 113) (As := [.int (x2 + 1)]) d_Q_readSignedCode_113 c10 rfl k_Q_readChoice ml_Q_99 (Or.inl ⟨by decide, rfl⟩) (by omega) (Nat.le_of_ble_eq_true rfl) ?_
        obtain ⟨rfl, rfl⟩ := w
        exact kv_e (fun _ _ => vv_aret (pc := 116) d_Q_readSignedCode_116 rfl (Or.inl ⟨_, rfl⟩) (cp_isr_rf _))
      by_cases e23_3 : x1 = (123 : Int32)
      · replace w := w.2.2.2.1 e23_3
        refine kw_topi (y := 123) e23_3 ?_
        refine kv_p (fun _ _ _ _ _ _ v => vv_lookup (pc := 23) (off := 71) (tgt := 94) d_Q_readSignedCode_23 (by decide +kernel) (by decide +kernel) rfl v) ?_
        refine kv_p (fun _ _ _ _ _ _ v => vv_aload_n (pc := 94) d_Q_readSignedCode_94 rfl v) ?_
        refine kv_p (fun _ _ _ _ _ _ v => vv_aload_n (pc := 95) d_Q_readSignedCode_95 rfl v) ?_
        refine kv_p (fun _ _ _ _ _ _ v => vv_bipush (pc := 96) (v := 9) d_Q_readSignedCode_96 rfl v) ?_
        refine kv_p (fun _ _ _ _ _ _ v => vv_iconst (pc := 98) (v := 0) d_Q_readSignedCode_98 rfl v) ?_
        refine kv_86 (fun h12 => ?_)
        refine kw_cv (pc := 99) (As := [.int 9, .int 0]) (As0 := (fun G => [.ref (cp_b G + 21), .int 9, .int 0])) d_Q_readSignedCode_99 (C_Qleaf h12) rfl k_Q_leaf ml_Q_57 (Or.inl ⟨by decide, rfl⟩) (by omega) (Nat.le_of_ble_eq_true rfl) ?_
        refine kv_p (fun _ _ _ _ _ _ v => vv_iload_n (pc := 102) d_Q_readSignedCode_102 rfl v) ?_
        refine kv_p (fun _ _ _ _ _ _ v => vv_iconst (pc := 103) (v := 1) d_Q_readSignedCode_103 rfl v) ?_
        refine kv_p (fun _ _ _ _ _ _ v => vv_iadd (pc := 104) d_Q_readSignedCode_104 v) ?_
        obtain ⟨r15, T13, c14, w⟩ := w
        refine kw_cv (pc := 105) (As := [va_rf (kr G K.1.1), .int (x2 + 1)]) d_Q_readSignedCode_105 c14 rfl k_Q_readMatch ml_Q_96 (Or.inl ⟨by decide, rfl⟩) (by omega) (Nat.le_of_ble_eq_true rfl) ?_
        obtain ⟨rfl, rfl⟩ := w
        exact kv_e (fun _ _ => vv_aret (pc := 108) d_Q_readSignedCode_108 rfl (Or.inl ⟨_, rfl⟩) (cp_isr_rf _))
      have hx : ∀ c ∈ ([43, 45, 91, 123] : List Int32), ¬ x1 = c := by
        intro c hc
        simp only [List.mem_cons, List.not_mem_nil, or_false] at hc
        rcases hc with rfl | rfl | rfl | rfl
        · exact e23_0
        · exact e23_1
        · exact e23_2
        · exact e23_3
      replace w := w.2.2.2.2 hx
      refine kv_p (fun _ _ _ _ _ _ v => vv_lookup (pc := 23) (off := 94) (tgt := 117) d_Q_readSignedCode_23 (by decide +kernel) (cl_swout ([43, 45, 91, 123] : List Int32) hx _ _ (by decide +kernel)) rfl v) ?_
      refine kw_null (pc := 117) d_Q_readSignedCode_117 ?_
      obtain ⟨rfl, rfl⟩ := w
      exact kv_e (fun _ _ => vv_aret (pc := 118) d_Q_readSignedCode_118 rfl (Or.inl ⟨_, rfl⟩) (cp_isr_rf _))
    · replace w := w.2 hc
      refine kv_p (fun _ _ _ _ _ _ v => vv_icmp_lt (pc := 17) (tgt := 22) d_Q_readSignedCode_17 rfl (fun hn => absurd hn hc) (fun _ => v)) ?_
      refine kw_null (pc := 20) d_Q_readSignedCode_20 ?_
      obtain ⟨rfl, rfl⟩ := w
      exact kv_e (fun _ _ => vv_aret (pc := 21) d_Q_readSignedCode_21 rfl (Or.inl ⟨_, rfl⟩) (cp_isr_rf _))
theorem c_Q_readSignedCode {D : Nat} {o : cp_G → Option Value} {K' K : cp_K} {x1 : Int32} {x2 : Int32} (w : wp_Q_readSignedCode_0 D (fun G => .inl (o G)) K' K x1 x2) : KC (D + 8) m_Q_readSignedCode (fun G => [.ref (cp_b G + 21), .int x1, .int x2]) K o K' := KC.of2 rfl (fun G => by exact ⟨Nat.le_of_ble_eq_true rfl, rfl⟩) (b_Q_readSignedCode_0 w)
def wp_Q_readSum_0 (D : Nat) (o : cp_G → cp_O) (K' K : cp_K) (p1 : Nat) (x2 : Int32) : Prop := ∃ r3 T1, KC (D + 7) m_Q_withPiece (fun G => [.ref (cp_b G + 21), va_rf (kr G p1), .int 3, .int x2]) K (fun G => some (va_rf (kr G r3))) T1 ∧ ∃ r6 T4, KC (D + 7) m_Q_withPiece (fun G => [.ref (cp_b G + 21), va_rf (kr G r3), .int 3, .int x2]) T1 (fun G => some (va_rf (kr G r6))) T4 ∧ (o = (fun G => .inl (some (va_rf (kr G r6)))) ∧ K' = T4)
theorem b_Q_readSum_0 {D : Nat} {o : cp_G → cp_O} {K' K : cp_K} {p1 : Nat} {x2 : Int32} (w : wp_Q_readSum_0 D o K' K p1 x2) : JC (D + 8) m_Q_readSum o K' 0 (fun G => [(0, .ref (cp_b G + 21)), (1, va_rf (kr G p1)), (2, .int x2)]) (fun _ => []) K := by
  unfold wp_Q_readSum_0 at w
  intro G H d n0 z0 hd
  show kV G H m_Q_readSum d n0 z0 (o G) K' 0 [(0, .ref (cp_b G + 21)), (1, va_rf (kr G p1)), (2, .int x2)] [] K
  refine kv_p (fun _ _ _ _ _ _ v => vv_aload_n (pc := 0) d_Q_readSum_0 rfl v) ?_
  refine kv_p (fun _ _ _ _ _ _ v => vv_aload_n (pc := 1) d_Q_readSum_1 rfl v) ?_
  refine kv_p (fun _ _ _ _ _ _ v => vv_aload_nr (pc := 2) d_Q_readSum_2 (cp_isr_rf (kr G p1)) rfl v) ?_
  refine kv_p (fun _ _ _ _ _ _ v => vv_iconst (pc := 3) (v := 3) d_Q_readSum_3 rfl v) ?_
  refine kv_p (fun _ _ _ _ _ _ v => vv_iload_n (pc := 4) d_Q_readSum_4 rfl v) ?_
  obtain ⟨r3, T1, c2, w⟩ := w
  refine kw_cv (pc := 5) (As := [va_rf (kr G p1), .int 3, .int x2]) d_Q_readSum_5 c2 rfl k_Q_withPiece ml_Q_60 (Or.inl ⟨by decide, rfl⟩) (by omega) (Nat.le_of_ble_eq_true rfl) ?_
  refine kv_p (fun _ _ _ _ _ _ v => vv_iconst (pc := 8) (v := 3) d_Q_readSum_8 rfl v) ?_
  refine kv_p (fun _ _ _ _ _ _ v => vv_iload_n (pc := 9) d_Q_readSum_9 rfl v) ?_
  obtain ⟨r6, T4, c5, w⟩ := w
  refine kw_cv (pc := 10) (As := [va_rf (kr G r3), .int 3, .int x2]) d_Q_readSum_10 c5 rfl k_Q_withPiece ml_Q_60 (Or.inl ⟨by decide, rfl⟩) (by omega) (Nat.le_of_ble_eq_true rfl) ?_
  obtain ⟨rfl, rfl⟩ := w
  exact kv_e (fun _ _ => vv_aret (pc := 13) d_Q_readSum_13 rfl (Or.inl ⟨_, rfl⟩) (cp_isr_rf _))
theorem c_Q_readSum {D : Nat} {o : cp_G → Option Value} {K' K : cp_K} {p1 : Nat} {x2 : Int32} (w : wp_Q_readSum_0 D (fun G => .inl (o G)) K' K p1 x2) : KC (D + 8) m_Q_readSum (fun G => [.ref (cp_b G + 21), va_rf (kr G p1), .int x2]) K o K' := KC.of2 rfl (fun G => by cases kr G p1 <;> exact ⟨Nat.le_of_ble_eq_true rfl, rfl⟩) (b_Q_readSum_0 w)
def wp_Q_readMatch_0 (D : Nat) (o : cp_G → cp_O) (K' K : cp_K) (p1 : Nat) (x2 : Int32) : Prop := ∃ r3 T1, KC (D + 7) m_Q_withPiece (fun G => [.ref (cp_b G + 21), va_rf (kr G p1), .int 3, .int x2]) K (fun G => some (va_rf (kr G r3))) T1 ∧ ((r3 = (0 : Nat) → (o = (fun G => .inl (some (va_rf (kr G 0)))) ∧ K' = T1)) ∧ (¬ r3 = (0 : Nat) → qok T1 ∧ ((¬ ((if qpk T1 = 124 then 1 else 0) : Int32) = 0 → JC (D + 8) m_Q_readMatch o K' 23 (fun G => [(0, .ref (cp_b G + 21)), (1, va_rf (kr G p1)), (2, .int x2), (3, .int 1)]) (fun _ => []) (qtk T1 124)) ∧ (((if qpk T1 = 124 then 1 else 0) : Int32) = 0 → (o = (fun G => .inl (some (va_rf (kr G 0)))) ∧ K' = (qtk T1 124))))))
theorem b_Q_readMatch_0 {D : Nat} {o : cp_G → cp_O} {K' K : cp_K} {p1 : Nat} {x2 : Int32} (w : wp_Q_readMatch_0 D o K' K p1 x2) : JC (D + 8) m_Q_readMatch o K' 0 (fun G => [(0, .ref (cp_b G + 21)), (1, va_rf (kr G p1)), (2, .int x2)]) (fun _ => []) K := by
  unfold wp_Q_readMatch_0 at w
  intro G H d n0 z0 hd
  show kV G H m_Q_readMatch d n0 z0 (o G) K' 0 [(0, .ref (cp_b G + 21)), (1, va_rf (kr G p1)), (2, .int x2)] [] K
  refine kv_p (fun _ _ _ _ _ _ v => vv_aload_n (pc := 0) d_Q_readMatch_0 rfl v) ?_
  refine kv_p (fun _ _ _ _ _ _ v => vv_aload_nr (pc := 1) d_Q_readMatch_1 (cp_isr_rf (kr G p1)) rfl v) ?_
  refine kv_p (fun _ _ _ _ _ _ v => vv_iconst (pc := 2) (v := 3) d_Q_readMatch_2 rfl v) ?_
  refine kv_p (fun _ _ _ _ _ _ v => vv_iload_n (pc := 3) d_Q_readMatch_3 rfl v) ?_
  obtain ⟨r3, T1, c2, w⟩ := w
  refine kw_cv (pc := 4) (As := [va_rf (kr G p1), .int 3, .int x2]) d_Q_readMatch_4 c2 rfl k_Q_withPiece ml_Q_60 (Or.inl ⟨by decide, rfl⟩) (by omega) (Nat.le_of_ble_eq_true rfl) ?_
  refine kw_ifnull (pc := 7) (tgt := 19) d_Q_readMatch_7 rfl (fun hc => ?_) (fun hc => ?_)
  · replace w := w.1 hc
    refine kw_null (pc := 19) d_Q_readMatch_19 ?_
    obtain ⟨rfl, rfl⟩ := w
    exact kv_e (fun _ _ => vv_aret (pc := 20) d_Q_readMatch_20 rfl (Or.inl ⟨_, rfl⟩) (cp_isr_rf _))
  · replace w := w.2 hc
    refine kv_p (fun _ _ _ _ _ _ v => vv_aload_n (pc := 10) d_Q_readMatch_10 rfl v) ?_
    refine kv_p (fun _ _ _ _ _ _ v => vv_bipush (pc := 11) (v := 124) d_Q_readMatch_11 rfl v) ?_
    obtain ⟨b4, w⟩ := w
    refine kw_cv (pc := 13) (As := [.int 124]) (As0 := (fun G => [.ref (cp_b G + 21), .int 124])) d_Q_readMatch_13 (C_Qtake b4) rfl k_Q_take ml_Q_68 (Or.inl ⟨by decide, rfl⟩) (by omega) (Nat.le_of_ble_eq_true rfl) ?_
    by_cases hc : ((if qpk T1 = 124 then 1 else 0) : Int32) = 0
    · replace w := w.2 hc
      refine kv_p (fun _ _ _ _ _ _ v => vv_if_ne (pc := 16) (tgt := 21) d_Q_readMatch_16 rfl (fun hn => absurd hc hn) (fun _ => v)) ?_
      refine kw_null (pc := 19) d_Q_readMatch_19 ?_
      obtain ⟨rfl, rfl⟩ := w
      exact kv_e (fun _ _ => vv_aret (pc := 20) d_Q_readMatch_20 rfl (Or.inl ⟨_, rfl⟩) (cp_isr_rf _))
    · replace w := w.1 hc
      refine kv_p (fun _ _ _ _ _ _ v => vv_if_ne (pc := 16) (tgt := 21) d_Q_readMatch_16 rfl (fun _ => v) (fun hn => absurd hn hc)) ?_
      refine kv_p (fun _ _ _ _ _ _ v => vv_iconst (pc := 21) (v := 1) d_Q_readMatch_21 rfl v) ?_
      refine kv_p (fun _ _ _ _ _ _ v => vv_istore_n (pc := 22) d_Q_readMatch_22 (Nat.le_of_ble_eq_true rfl) v) ?_
      exact kw_sub [1, 2, 3, 0] rfl (w G H d n0 z0 hd)
theorem c_Q_readMatch {D : Nat} {o : cp_G → Option Value} {K' K : cp_K} {p1 : Nat} {x2 : Int32} (w : wp_Q_readMatch_0 D (fun G => .inl (o G)) K' K p1 x2) : KC (D + 8) m_Q_readMatch (fun G => [.ref (cp_b G + 21), va_rf (kr G p1), .int x2]) K o K' := KC.of2 rfl (fun G => by cases kr G p1 <;> exact ⟨Nat.le_of_ble_eq_true rfl, rfl⟩) (b_Q_readMatch_0 w)
def wp_Q_readMatch_23 (D : Nat) (o : cp_G → cp_O) (K' K : cp_K) (p1 : Nat) (x2 : Int32) (x3 : Int32) : Prop := ((5 < (x3 : Int32) → (o = (fun G => .inl (some (va_rf (kr G 0)))) ∧ K' = K)) ∧ (¬ 5 < (x3 : Int32) → ∃ r3 T1, KC (D + 7) m_Q_readCase (fun G => [.ref (cp_b G + 21), .int x2]) K (fun G => some (va_rf (kr G r3))) T1 ∧ ((¬ r3 = (0 : Nat) → nd T1 p1 9 ∧ (¬ T1.2.2.1 p1 5 = 0 → nd T1 (T1.2.2.1 p1 5) 9) ∧ qok T1 ∧ ((((if qpk (nadd T1 p1 r3) = 125 then 1 else 0) : Int32) = 0 → (((x3 : Int32) = 5 → (o = (fun G => .inl (some (va_rf (kr G 0)))) ∧ K' = (qtk (nadd T1 p1 r3) 125))) ∧ (¬ (x3 : Int32) = 5 → ((¬ ((if qpk (qtk (nadd T1 p1 r3) 125) = 124 then 1 else 0) : Int32) = 0 → JC (D + 8) m_Q_readMatch o K' 23 (fun G => [(0, .ref (cp_b G + 21)), (1, va_rf (kr G p1)), (2, .int x2), (3, .int (x3 + 1))]) (fun _ => []) (qtk (qtk (nadd T1 p1 r3) 125) 124)) ∧ (((if qpk (qtk (nadd T1 p1 r3) 125) = 124 then 1 else 0) : Int32) = 0 → (o = (fun G => .inl (some (va_rf (kr G 0)))) ∧ K' = (qtk (qtk (nadd T1 p1 r3) 125) 124))))))) ∧ (¬ ((if qpk (nadd T1 p1 r3) = 125 then 1 else 0) : Int32) = 0 → (o = (fun G => .inl (some (va_rf (kr G p1)))) ∧ K' = (qtk (nadd T1 p1 r3) 125))))) ∧ (r3 = (0 : Nat) → (o = (fun G => .inl (some (va_rf (kr G 0)))) ∧ K' = T1)))))
theorem b_Q_readMatch_23 {D : Nat} {o : cp_G → cp_O} {K' K : cp_K} {p1 : Nat} {x2 : Int32} {x3 : Int32} (w : wp_Q_readMatch_23 D o K' K p1 x2 x3) : JC (D + 8) m_Q_readMatch o K' 23 (fun G => [(0, .ref (cp_b G + 21)), (1, va_rf (kr G p1)), (2, .int x2), (3, .int x3)]) (fun _ => []) K := by
  unfold wp_Q_readMatch_23 at w
  intro G H d n0 z0 hd
  show kV G H m_Q_readMatch d n0 z0 (o G) K' 23 [(0, .ref (cp_b G + 21)), (1, va_rf (kr G p1)), (2, .int x2), (3, .int x3)] [] K
  refine kv_p (fun _ _ _ _ _ _ v => vv_iload_n (pc := 23) d_Q_readMatch_23 rfl v) ?_
  refine kv_p (fun _ _ _ _ _ _ v => vv_iconst (pc := 24) (v := 5) d_Q_readMatch_24 rfl v) ?_
  by_cases hc : 5 < (x3 : Int32)
  · replace w := w.1 hc
    refine kv_p (fun _ _ _ _ _ _ v => vv_icmp_gt (pc := 25) (tgt := 81) d_Q_readMatch_25 rfl (fun _ => v) (fun hn => absurd hc hn)) ?_
    refine kw_null (pc := 81) d_Q_readMatch_81 ?_
    obtain ⟨rfl, rfl⟩ := w
    exact kv_e (fun _ _ => vv_aret (pc := 82) d_Q_readMatch_82 rfl (Or.inl ⟨_, rfl⟩) (cp_isr_rf _))
  · replace w := w.2 hc
    refine kv_p (fun _ _ _ _ _ _ v => vv_icmp_gt (pc := 25) (tgt := 81) d_Q_readMatch_25 rfl (fun hn => absurd hn hc) (fun _ => v)) ?_
    refine kv_p (fun _ _ _ _ _ _ v => vv_aload_n (pc := 28) d_Q_readMatch_28 rfl v) ?_
    refine kv_p (fun _ _ _ _ _ _ v => vv_iload_n (pc := 29) d_Q_readMatch_29 rfl v) ?_
    obtain ⟨r3, T1, c2, w⟩ := w
    refine kw_cv (pc := 30) (As := [.int x2]) d_Q_readMatch_30 c2 rfl k_Q_readCase ml_Q_103 (Or.inl ⟨by decide, rfl⟩) (by omega) (Nat.le_of_ble_eq_true rfl) ?_
    refine kv_p (fun _ _ _ _ _ _ v => vv_astore (pc := 33) d_Q_readMatch_33 (cp_isr_rf (kr G r3)) (Nat.le_of_ble_eq_true rfl) v) ?_
    refine kv_p (fun _ _ _ _ _ _ v => vv_aloadr (pc := 35) d_Q_readMatch_35 (cp_isr_rf (kr G r3)) rfl v) ?_
    refine kw_ifnonnull (pc := 37) (tgt := 42) d_Q_readMatch_37 rfl (fun hc => ?_) (fun hc => ?_)
    · replace w := w.1 hc
      refine kv_p (fun _ _ _ _ _ _ v => vv_aload_nr (pc := 42) d_Q_readMatch_42 (cp_isr_rf (kr G p1)) rfl v) ?_
      refine kv_p (fun _ _ _ _ _ _ v => vv_aloadr (pc := 43) d_Q_readMatch_43 (cp_isr_rf (kr G r3)) rfl v) ?_
      obtain ⟨b4, w⟩ := w
      obtain ⟨b5, w⟩ := w
      refine kw_cn (pc := 45) (As := [va_rf (kr G r3)]) (As0 := (fun G => [va_rf (kr G p1), va_rf (kr G r3)])) d_Q_readMatch_45 (C_Nadd b4 b5) rfl k_N_add ml_Q_49 b4 (by omega) (Nat.le_of_ble_eq_true rfl) ?_
      refine kv_p (fun _ _ _ _ _ _ v => vv_aload_n (pc := 48) d_Q_readMatch_48 rfl v) ?_
      refine kv_p (fun _ _ _ _ _ _ v => vv_bipush (pc := 49) (v := 125) d_Q_readMatch_49 rfl v) ?_
      obtain ⟨b6, w⟩ := w
      refine kw_cv (pc := 51) (As := [.int 125]) (As0 := (fun G => [.ref (cp_b G + 21), .int 125])) d_Q_readMatch_51 (C_Qtake (qok_nadd b6 b4 b5)) rfl k_Q_take ml_Q_68 (Or.inl ⟨by decide, rfl⟩) (by omega) (Nat.le_of_ble_eq_true rfl) ?_
      by_cases hc : ((if qpk (nadd T1 p1 r3) = 125 then 1 else 0) : Int32) = 0
      · replace w := w.1 hc
        refine kv_p (fun _ _ _ _ _ _ v => vv_if_eq (pc := 54) (tgt := 59) d_Q_readMatch_54 rfl (fun _ => v) (fun hn => absurd hc hn)) ?_
        refine kv_p (fun _ _ _ _ _ _ v => vv_iload_n (pc := 59) d_Q_readMatch_59 rfl v) ?_
        refine kv_p (fun _ _ _ _ _ _ v => vv_iconst (pc := 60) (v := 5) d_Q_readMatch_60 rfl v) ?_
        by_cases hc : (x3 : Int32) = 5
        · replace w := w.1 hc
          refine kv_p (fun _ _ _ _ _ _ v => vv_icmp_eq (pc := 61) (tgt := 73) d_Q_readMatch_61 rfl (fun _ => v) (fun hn => absurd hc hn)) ?_
          refine kw_null (pc := 73) d_Q_readMatch_73 ?_
          obtain ⟨rfl, rfl⟩ := w
          exact kv_e (fun _ _ => vv_aret (pc := 74) d_Q_readMatch_74 rfl (Or.inl ⟨_, rfl⟩) (cp_isr_rf _))
        · replace w := w.2 hc
          refine kv_p (fun _ _ _ _ _ _ v => vv_icmp_eq (pc := 61) (tgt := 73) d_Q_readMatch_61 rfl (fun hn => absurd hn hc) (fun _ => v)) ?_
          refine kv_p (fun _ _ _ _ _ _ v => vv_aload_n (pc := 64) d_Q_readMatch_64 rfl v) ?_
          refine kv_p (fun _ _ _ _ _ _ v => vv_bipush (pc := 65) (v := 124) d_Q_readMatch_65 rfl v) ?_
          refine kw_cv (pc := 67) (As := [.int 124]) (As0 := (fun G => [.ref (cp_b G + 21), .int 124])) d_Q_readMatch_67 (C_Qtake (qok_qtk (qok_nadd b6 b4 b5))) rfl k_Q_take ml_Q_68 (Or.inl ⟨by decide, rfl⟩) (by omega) (Nat.le_of_ble_eq_true rfl) ?_
          by_cases hc : ((if qpk (qtk (nadd T1 p1 r3) 125) = 124 then 1 else 0) : Int32) = 0
          · replace w := w.2 hc
            refine kv_p (fun _ _ _ _ _ _ v => vv_if_ne (pc := 70) (tgt := 75) d_Q_readMatch_70 rfl (fun hn => absurd hc hn) (fun _ => v)) ?_
            refine kw_null (pc := 73) d_Q_readMatch_73 ?_
            obtain ⟨rfl, rfl⟩ := w
            exact kv_e (fun _ _ => vv_aret (pc := 74) d_Q_readMatch_74 rfl (Or.inl ⟨_, rfl⟩) (cp_isr_rf _))
          · replace w := w.1 hc
            refine kv_p (fun _ _ _ _ _ _ v => vv_if_ne (pc := 70) (tgt := 75) d_Q_readMatch_70 rfl (fun _ => v) (fun hn => absurd hn hc)) ?_
            refine kv_p (fun _ _ _ _ _ _ v => vv_iinc (pc := 75) (v := (x3 + 1)) d_Q_readMatch_75 rfl rfl (Nat.le_of_ble_eq_true rfl) v) ?_
            refine kv_p (fun _ _ _ _ _ _ v => vv_goto (pc := 78) (tgt := 23) d_Q_readMatch_78 rfl v) ?_
            exact kw_sub [2, 3, 4, 0] rfl (w G H d n0 z0 hd)
      · replace w := w.2 hc
        refine kv_p (fun _ _ _ _ _ _ v => vv_if_eq (pc := 54) (tgt := 59) d_Q_readMatch_54 rfl (fun hn => absurd hn hc) (fun _ => v)) ?_
        refine kv_p (fun _ _ _ _ _ _ v => vv_aload_nr (pc := 57) d_Q_readMatch_57 (cp_isr_rf (kr G p1)) rfl v) ?_
        obtain ⟨rfl, rfl⟩ := w
        exact kv_e (fun _ _ => vv_aret (pc := 58) d_Q_readMatch_58 rfl (Or.inl ⟨_, rfl⟩) (cp_isr_rf _))
    · replace w := w.2 hc
      refine kw_null (pc := 40) d_Q_readMatch_40 ?_
      obtain ⟨rfl, rfl⟩ := w
      exact kv_e (fun _ _ => vv_aret (pc := 41) d_Q_readMatch_41 rfl (Or.inl ⟨_, rfl⟩) (cp_isr_rf _))
def wp_Q_readCase_0 (D : Nat) (o : cp_G → cp_O) (K' K : cp_K) (x1 : Int32) : Prop := ∃ r4 T2, KC (D + 7) m_Q_readPatternHead (fun G => [.ref (cp_b G + 21)]) (ninit (kN K 9) K.1.1 10 0 ((kN K 9).2.1 21 2)) (fun G => some (va_rf (kr G r4))) T2 ∧ ((¬ r4 = (0 : Nat) → nd T2 K.1.1 9 ∧ (¬ T2.2.2.1 K.1.1 5 = 0 → nd T2 (T2.2.2.1 K.1.1 5) 9) ∧ nd T2 r4 9 ∧ ((¬ (((nadd T2 K.1.1 r4).2.1 r4 0) : Int32) = 6 → JC (D + 8) m_Q_readCase o K' 63 (fun G => [(0, .ref (cp_b G + 21)), (1, .int x1), (2, va_rf (kr G K.1.1)), (3, va_rf (kr G r4))]) (fun _ => []) (nadd T2 K.1.1 r4)) ∧ ((((nadd T2 K.1.1 r4).2.1 r4 0) : Int32) = 6 → qok T2 ∧ ((((if qpk (nadd T2 K.1.1 r4) = 40 then 1 else 0) : Int32) = 0 → JC (D + 8) m_Q_readCase o K' 63 (fun G => [(0, .ref (cp_b G + 21)), (1, .int x1), (2, va_rf (kr G K.1.1)), (3, va_rf (kr G r4))]) (fun _ => []) (qtk (nadd T2 K.1.1 r4) 40)) ∧ (¬ ((if qpk (nadd T2 K.1.1 r4) = 40 then 1 else 0) : Int32) = 0 → ∃ r11 T9, KC (D + 7) m_Q_readVariables (fun G => [.ref (cp_b G + 21), va_rf (kr G r4), .int 6, .int 41]) (qtk (nadd T2 K.1.1 r4) 40) (fun _ => some (.int r11)) T9 ∧ ((¬ (r11 : Int32) = 0 → JC (D + 8) m_Q_readCase o K' 63 (fun G => [(0, .ref (cp_b G + 21)), (1, .int x1), (2, va_rf (kr G K.1.1)), (3, va_rf (kr G r4))]) (fun _ => []) T9) ∧ ((r11 : Int32) = 0 → (o = (fun G => .inl (some (va_rf (kr G 0)))) ∧ K' = T9)))))))) ∧ (r4 = (0 : Nat) → (o = (fun G => .inl (some (va_rf (kr G 0)))) ∧ K' = T2)))
theorem b_Q_readCase_0 {D : Nat} {o : cp_G → cp_O} {K' K : cp_K} {x1 : Int32} (w : wp_Q_readCase_0 D o K' K x1) : JC (D + 8) m_Q_readCase o K' 0 (fun G => [(0, .ref (cp_b G + 21)), (1, .int x1)]) (fun _ => []) K := by
  unfold wp_Q_readCase_0 at w
  intro G H d n0 z0 hd
  show kV G H m_Q_readCase d n0 z0 (o G) K' 0 [(0, .ref (cp_b G + 21)), (1, .int x1)] [] K
  refine kv_86 (fun h1 => ?_)
  refine kw_new (pc := 0) (N := 7) d_Q_readCase_0 cp_ok9 cl_Q_36 rfl (by decide) kdef9 ?_
  refine kv_p (fun _ _ _ _ _ _ v => vv_dup (pc := 3) d_Q_readCase_3 (kr_cat _) v) ?_
  refine kv_p (fun _ _ _ _ _ _ v => vv_bipush (pc := 4) (v := 10) d_Q_readCase_4 rfl v) ?_
  refine kv_p (fun _ _ _ _ _ _ v => vv_iconst (pc := 6) (v := 0) d_Q_readCase_6 rfl v) ?_
  refine kv_p (fun _ _ _ _ _ _ v => vv_aload_n (pc := 7) d_Q_readCase_7 rfl v) ?_
  refine kw_gi (pc := 8) d_Q_readCase_8 fl_Q_19 (Or.inl ⟨by decide, rfl⟩) rfl rfl ?_
  refine kw_ci (pc := 11) (As := [.int 10, .int 0, .int ((kN K 9).2.1 21 2)]) (As0 := (fun G => [va_rf (kr G K.1.1), .int 10, .int 0, .int ((kN K 9).2.1 21 2)])) d_Q_readCase_11 (C_Ninit (nd_self h1)) rfl k_N_init ml_Q_38 (nd_self h1) (by omega) (by cases kr G K.1.1 <;> exact Nat.le_of_ble_eq_true rfl) ?_
  refine kv_p (fun _ _ _ _ _ _ v => vv_astore_n (pc := 14) d_Q_readCase_14 (cp_isr_rf (kr G K.1.1)) (Nat.le_of_ble_eq_true rfl) v) ?_
  refine kv_p (fun _ _ _ _ _ _ v => vv_aload_n (pc := 15) d_Q_readCase_15 rfl v) ?_
  obtain ⟨r4, T2, c3, w⟩ := w
  refine kw_cv (pc := 16) (As := []) d_Q_readCase_16 c3 rfl k_Q_readPatternHead ml_Q_106 (Or.inl ⟨by decide, rfl⟩) (by omega) (Nat.le_of_ble_eq_true rfl) ?_
  refine kv_p (fun _ _ _ _ _ _ v => vv_astore_n (pc := 19) d_Q_readCase_19 (cp_isr_rf (kr G r4)) (Nat.le_of_ble_eq_true rfl) v) ?_
  refine kw_lv (lv := [(3, va_rf (kr G r4)), (2, va_rf (kr G K.1.1)), (0, .ref (cp_b G + 21)), (1, .int x1)]) (by cases kr G K.1.1 <;> rfl) ?_
  refine kv_p (fun _ _ _ _ _ _ v => vv_aload_nr (pc := 20) d_Q_readCase_20 (cp_isr_rf (kr G r4)) rfl v) ?_
  refine kw_ifnonnull (pc := 21) (tgt := 26) d_Q_readCase_21 rfl (fun hc => ?_) (fun hc => ?_)
  · replace w := w.1 hc
    refine kv_p (fun _ _ _ _ _ _ v => vv_aload_nr (pc := 26) d_Q_readCase_26 (cp_isr_rf (kr G K.1.1)) rfl v) ?_
    refine kv_p (fun _ _ _ _ _ _ v => vv_aload_nr (pc := 27) d_Q_readCase_27 (cp_isr_rf (kr G r4)) rfl v) ?_
    obtain ⟨b5, w⟩ := w
    obtain ⟨b6, w⟩ := w
    refine kw_cn (pc := 28) (As := [va_rf (kr G r4)]) (As0 := (fun G => [va_rf (kr G K.1.1), va_rf (kr G r4)])) d_Q_readCase_28 (C_Nadd b5 b6) rfl k_N_add ml_Q_49 b5 (by omega) (Nat.le_of_ble_eq_true rfl) ?_
    refine kv_p (fun _ _ _ _ _ _ v => vv_aload_nr (pc := 31) d_Q_readCase_31 (cp_isr_rf (kr G r4)) rfl v) ?_
    obtain ⟨b7, w⟩ := w
    refine kw_giN (pc := 32) d_Q_readCase_32 fl_Q_109 (nd_nadd b7) rfl rfl ?_
    refine kv_p (fun _ _ _ _ _ _ v => vv_bipush (pc := 35) (v := 6) d_Q_readCase_35 rfl v) ?_
    by_cases hc : (((nadd T2 K.1.1 r4).2.1 r4 0) : Int32) = 6
    · replace w := w.2 hc
      refine kv_p (fun _ _ _ _ _ _ v => vv_icmp_ne (pc := 37) (tgt := 63) d_Q_readCase_37 rfl (fun hn => absurd hc hn) (fun _ => v)) ?_
      refine kv_p (fun _ _ _ _ _ _ v => vv_aload_n (pc := 40) d_Q_readCase_40 rfl v) ?_
      refine kv_p (fun _ _ _ _ _ _ v => vv_bipush (pc := 41) (v := 40) d_Q_readCase_41 rfl v) ?_
      obtain ⟨b8, w⟩ := w
      refine kw_cv (pc := 43) (As := [.int 40]) (As0 := (fun G => [.ref (cp_b G + 21), .int 40])) d_Q_readCase_43 (C_Qtake (qok_nadd b8 b5 b6)) rfl k_Q_take ml_Q_68 (Or.inl ⟨by decide, rfl⟩) (by omega) (Nat.le_of_ble_eq_true rfl) ?_
      by_cases hc : ((if qpk (nadd T2 K.1.1 r4) = 40 then 1 else 0) : Int32) = 0
      · replace w := w.1 hc
        refine kv_p (fun _ _ _ _ _ _ v => vv_if_eq (pc := 46) (tgt := 63) d_Q_readCase_46 rfl (fun _ => v) (fun hn => absurd hc hn)) ?_
        exact kw_sub [2, 3, 1, 0] rfl (w G H d n0 z0 hd)
      · replace w := w.2 hc
        refine kv_p (fun _ _ _ _ _ _ v => vv_if_eq (pc := 46) (tgt := 63) d_Q_readCase_46 rfl (fun hn => absurd hn hc) (fun _ => v)) ?_
        refine kv_p (fun _ _ _ _ _ _ v => vv_aload_n (pc := 49) d_Q_readCase_49 rfl v) ?_
        refine kv_p (fun _ _ _ _ _ _ v => vv_aload_nr (pc := 50) d_Q_readCase_50 (cp_isr_rf (kr G r4)) rfl v) ?_
        refine kv_p (fun _ _ _ _ _ _ v => vv_bipush (pc := 51) (v := 6) d_Q_readCase_51 rfl v) ?_
        refine kv_p (fun _ _ _ _ _ _ v => vv_bipush (pc := 53) (v := 41) d_Q_readCase_53 rfl v) ?_
        obtain ⟨r11, T9, c10, w⟩ := w
        refine kw_cv (pc := 55) (As := [va_rf (kr G r4), .int 6, .int 41]) d_Q_readCase_55 c10 rfl k_Q_readVariables ml_Q_64 (Or.inl ⟨by decide, rfl⟩) (by omega) (Nat.le_of_ble_eq_true rfl) ?_
        by_cases hc : (r11 : Int32) = 0
        · replace w := w.2 hc
          refine kv_p (fun _ _ _ _ _ _ v => vv_if_ne (pc := 58) (tgt := 63) d_Q_readCase_58 rfl (fun hn => absurd hc hn) (fun _ => v)) ?_
          refine kw_null (pc := 61) d_Q_readCase_61 ?_
          obtain ⟨rfl, rfl⟩ := w
          exact kv_e (fun _ _ => vv_aret (pc := 62) d_Q_readCase_62 rfl (Or.inl ⟨_, rfl⟩) (cp_isr_rf _))
        · replace w := w.1 hc
          refine kv_p (fun _ _ _ _ _ _ v => vv_if_ne (pc := 58) (tgt := 63) d_Q_readCase_58 rfl (fun _ => v) (fun hn => absurd hn hc)) ?_
          exact kw_sub [2, 3, 1, 0] rfl (w G H d n0 z0 hd)
    · replace w := w.1 hc
      refine kv_p (fun _ _ _ _ _ _ v => vv_icmp_ne (pc := 37) (tgt := 63) d_Q_readCase_37 rfl (fun _ => v) (fun hn => absurd hn hc)) ?_
      exact kw_sub [2, 3, 1, 0] rfl (w G H d n0 z0 hd)
  · replace w := w.2 hc
    refine kw_null (pc := 24) d_Q_readCase_24 ?_
    obtain ⟨rfl, rfl⟩ := w
    exact kv_e (fun _ _ => vv_aret (pc := 25) d_Q_readCase_25 rfl (Or.inl ⟨_, rfl⟩) (cp_isr_rf _))
theorem c_Q_readCase {D : Nat} {o : cp_G → Option Value} {K' K : cp_K} {x1 : Int32} (w : wp_Q_readCase_0 D (fun G => .inl (o G)) K' K x1) : KC (D + 8) m_Q_readCase (fun G => [.ref (cp_b G + 21), .int x1]) K o K' := KC.of2 rfl (fun G => by exact ⟨Nat.le_of_ble_eq_true rfl, rfl⟩) (b_Q_readCase_0 w)
def wp_Q_readCase_63 (D : Nat) (o : cp_G → cp_O) (K' K : cp_K) (x1 : Int32) (p2 : Nat) (p3 : Nat) : Prop := qok K ∧ ((((if qpk K = 62 then 1 else 0) : Int32) = 0 → (o = (fun G => .inl (some (va_rf (kr G 0)))) ∧ K' = (qtk K 62))) ∧ (¬ ((if qpk K = 62 then 1 else 0) : Int32) = 0 → ∃ r4 T2, KC (D + 7) m_Q_withPiece (fun G => [.ref (cp_b G + 21), va_rf (kr G p2), .int 3, .int x1]) (qtk K 62) (fun G => some (va_rf (kr G r4))) T2 ∧ (o = (fun G => .inl (some (va_rf (kr G r4)))) ∧ K' = T2)))
theorem b_Q_readCase_63 {D : Nat} {o : cp_G → cp_O} {K' K : cp_K} {x1 : Int32} {p2 : Nat} {p3 : Nat} (w : wp_Q_readCase_63 D o K' K x1 p2 p3) : JC (D + 8) m_Q_readCase o K' 63 (fun G => [(0, .ref (cp_b G + 21)), (1, .int x1), (2, va_rf (kr G p2)), (3, va_rf (kr G p3))]) (fun _ => []) K := by
  unfold wp_Q_readCase_63 at w
  intro G H d n0 z0 hd
  show kV G H m_Q_readCase d n0 z0 (o G) K' 63 [(0, .ref (cp_b G + 21)), (1, .int x1), (2, va_rf (kr G p2)), (3, va_rf (kr G p3))] [] K
  refine kv_p (fun _ _ _ _ _ _ v => vv_aload_n (pc := 63) d_Q_readCase_63 rfl v) ?_
  refine kv_p (fun _ _ _ _ _ _ v => vv_bipush (pc := 64) (v := 62) d_Q_readCase_64 rfl v) ?_
  obtain ⟨b1, w⟩ := w
  refine kw_cv (pc := 66) (As := [.int 62]) (As0 := (fun G => [.ref (cp_b G + 21), .int 62])) d_Q_readCase_66 (C_Qtake b1) rfl k_Q_take ml_Q_68 (Or.inl ⟨by decide, rfl⟩) (by omega) (Nat.le_of_ble_eq_true rfl) ?_
  by_cases hc : ((if qpk K = 62 then 1 else 0) : Int32) = 0
  · replace w := w.1 hc
    refine kv_p (fun _ _ _ _ _ _ v => vv_if_eq (pc := 69) (tgt := 82) d_Q_readCase_69 rfl (fun _ => v) (fun hn => absurd hc hn)) ?_
    refine kw_null (pc := 82) d_Q_readCase_82 ?_
    obtain ⟨rfl, rfl⟩ := w
    exact kv_e (fun _ _ => vv_aret (pc := 83) d_Q_readCase_83 rfl (Or.inl ⟨_, rfl⟩) (cp_isr_rf _))
  · replace w := w.2 hc
    refine kv_p (fun _ _ _ _ _ _ v => vv_if_eq (pc := 69) (tgt := 82) d_Q_readCase_69 rfl (fun hn => absurd hn hc) (fun _ => v)) ?_
    refine kv_p (fun _ _ _ _ _ _ v => vv_aload_n (pc := 72) d_Q_readCase_72 rfl v) ?_
    refine kv_p (fun _ _ _ _ _ _ v => vv_aload_nr (pc := 73) d_Q_readCase_73 (cp_isr_rf (kr G p2)) rfl v) ?_
    refine kv_p (fun _ _ _ _ _ _ v => vv_iconst (pc := 74) (v := 3) d_Q_readCase_74 rfl v) ?_
    refine kv_p (fun _ _ _ _ _ _ v => vv_iload_n (pc := 75) d_Q_readCase_75 rfl v) ?_
    obtain ⟨r4, T2, c3, w⟩ := w
    refine kw_cv (pc := 76) (As := [va_rf (kr G p2), .int 3, .int x1]) d_Q_readCase_76 c3 rfl k_Q_withPiece ml_Q_60 (Or.inl ⟨by decide, rfl⟩) (by omega) (Nat.le_of_ble_eq_true rfl) ?_
    refine kv_p (fun _ _ _ _ _ _ v => vv_goto (pc := 79) (tgt := 83) d_Q_readCase_79 rfl v) ?_
    obtain ⟨rfl, rfl⟩ := w
    exact kv_e (fun _ _ => vv_aret (pc := 83) d_Q_readCase_83 rfl (Or.inl ⟨_, rfl⟩) (cp_isr_rf _))
def wp_Q_readPatternHead_0 (D : Nat) (o : cp_G → cp_O) (K' K : cp_K) : Prop := qok K ∧ ((¬ ((qpk K) : Int32) = 95 → ((((if 48 ≤ (qpk K) ∧ (qpk K) ≤ 57 then 1 else 0) : Int32) = 0 → ((((if 65 ≤ (qpk K) ∧ (qpk K) ≤ 90 then 1 else 0) : Int32) = 0 → (o = (fun G => .inl (some (va_rf (kr G 0)))) ∧ K' = K)) ∧ (¬ ((if 65 ≤ (qpk K) ∧ (qpk K) ≤ 90 then 1 else 0) : Int32) = 0 → (o = (fun G => .inl (some (va_rf (kr G K.1.1)))) ∧ K' = (qlf K 6 (qpk K)))))) ∧ (¬ ((if 48 ≤ (qpk K) ∧ (qpk K) ≤ 57 then 1 else 0) : Int32) = 0 → (o = (fun G => .inl (some (va_rf (kr G K.1.1)))) ∧ K' = (qlf K 1 ((qpk K) - 48)))))) ∧ (((qpk K) : Int32) = 95 → (o = (fun G => .inl (some (va_rf (kr G K.1.1)))) ∧ K' = (qlf K 4 0))))
theorem b_Q_readPatternHead_0 {D : Nat} {o : cp_G → cp_O} {K' K : cp_K} (w : wp_Q_readPatternHead_0 D o K' K) : JC (D + 8) m_Q_readPatternHead o K' 0 (fun G => [(0, .ref (cp_b G + 21))]) (fun _ => []) K := by
  unfold wp_Q_readPatternHead_0 at w
  intro G H d n0 z0 hd
  show kV G H m_Q_readPatternHead d n0 z0 (o G) K' 0 [(0, .ref (cp_b G + 21))] [] K
  refine kv_p (fun _ _ _ _ _ _ v => vv_aload_n (pc := 0) d_Q_readPatternHead_0 rfl v) ?_
  obtain ⟨b1, w⟩ := w
  refine kw_cv (pc := 1) (As := []) (As0 := (fun G => [.ref (cp_b G + 21)])) d_Q_readPatternHead_1 (C_Qpeek b1) rfl k_Q_peek ml_Q_53 (Or.inl ⟨by decide, rfl⟩) (by omega) (Nat.le_of_ble_eq_true rfl) ?_
  refine kv_p (fun _ _ _ _ _ _ v => vv_istore_n (pc := 4) d_Q_readPatternHead_4 (Nat.le_of_ble_eq_true rfl) v) ?_
  refine kv_p (fun _ _ _ _ _ _ v => vv_iload_n (pc := 5) d_Q_readPatternHead_5 rfl v) ?_
  refine kv_p (fun _ _ _ _ _ _ v => vv_bipush (pc := 6) (v := 95) d_Q_readPatternHead_6 rfl v) ?_
  by_cases hc : ((qpk K) : Int32) = 95
  · replace w := w.2 hc
    refine kv_p (fun _ _ _ _ _ _ v => vv_icmp_ne (pc := 8) (tgt := 18) d_Q_readPatternHead_8 rfl (fun hn => absurd hc hn) (fun _ => v)) ?_
    refine kv_p (fun _ _ _ _ _ _ v => vv_aload_n (pc := 11) d_Q_readPatternHead_11 rfl v) ?_
    refine kv_p (fun _ _ _ _ _ _ v => vv_iconst (pc := 12) (v := 4) d_Q_readPatternHead_12 rfl v) ?_
    refine kv_p (fun _ _ _ _ _ _ v => vv_iconst (pc := 13) (v := 0) d_Q_readPatternHead_13 rfl v) ?_
    refine kv_86 (fun h4 => ?_)
    refine kw_cv (pc := 14) (As := [.int 4, .int 0]) (As0 := (fun G => [.ref (cp_b G + 21), .int 4, .int 0])) d_Q_readPatternHead_14 (C_Qleaf h4) rfl k_Q_leaf ml_Q_57 (Or.inl ⟨by decide, rfl⟩) (by omega) (Nat.le_of_ble_eq_true rfl) ?_
    obtain ⟨rfl, rfl⟩ := w
    exact kv_e (fun _ _ => vv_aret (pc := 17) d_Q_readPatternHead_17 rfl (Or.inl ⟨_, rfl⟩) (cp_isr_rf _))
  · replace w := w.1 hc
    refine kv_p (fun _ _ _ _ _ _ v => vv_icmp_ne (pc := 8) (tgt := 18) d_Q_readPatternHead_8 rfl (fun _ => v) (fun hn => absurd hn hc)) ?_
    refine kv_p (fun _ _ _ _ _ _ v => vv_iload_n (pc := 18) d_Q_readPatternHead_18 rfl v) ?_
    refine kw_csn (pc := 19) (As := [.int (qpk K)]) d_Q_readPatternHead_19 (SC_P_isDigit (qpk K)) k_P_isDigit nl_Q_82 ks_P_isDigit (by omega) (Nat.le_of_ble_eq_true rfl) ?_
    by_cases hc : ((if 48 ≤ (qpk K) ∧ (qpk K) ≤ 57 then 1 else 0) : Int32) = 0
    · replace w := w.1 hc
      refine kv_p (fun _ _ _ _ _ _ v => vv_if_eq (pc := 22) (tgt := 35) d_Q_readPatternHead_22 rfl (fun _ => v) (fun hn => absurd hc hn)) ?_
      refine kv_p (fun _ _ _ _ _ _ v => vv_iload_n (pc := 35) d_Q_readPatternHead_35 rfl v) ?_
      refine kw_csn (pc := 36) (As := [.int (qpk K)]) d_Q_readPatternHead_36 (SC_P_isLetter (qpk K)) k_P_isLetter nl_Q_76 ks_P_isLetter (by omega) (Nat.le_of_ble_eq_true rfl) ?_
      by_cases hc : ((if 65 ≤ (qpk K) ∧ (qpk K) ≤ 90 then 1 else 0) : Int32) = 0
      · replace w := w.1 hc
        refine kv_p (fun _ _ _ _ _ _ v => vv_if_eq (pc := 39) (tgt := 52) d_Q_readPatternHead_39 rfl (fun _ => v) (fun hn => absurd hc hn)) ?_
        refine kw_null (pc := 52) d_Q_readPatternHead_52 ?_
        obtain ⟨rfl, rfl⟩ := w
        exact kv_e (fun _ _ => vv_aret (pc := 53) d_Q_readPatternHead_53 rfl (Or.inl ⟨_, rfl⟩) (cp_isr_rf _))
      · replace w := w.2 hc
        refine kv_p (fun _ _ _ _ _ _ v => vv_if_eq (pc := 39) (tgt := 52) d_Q_readPatternHead_39 rfl (fun hn => absurd hn hc) (fun _ => v)) ?_
        refine kv_p (fun _ _ _ _ _ _ v => vv_aload_n (pc := 42) d_Q_readPatternHead_42 rfl v) ?_
        refine kv_p (fun _ _ _ _ _ _ v => vv_bipush (pc := 43) (v := 6) d_Q_readPatternHead_43 rfl v) ?_
        refine kv_p (fun _ _ _ _ _ _ v => vv_iload_n (pc := 45) d_Q_readPatternHead_45 rfl v) ?_
        refine kv_86 (fun h2 => ?_)
        refine kw_cv (pc := 46) (As := [.int 6, .int (qpk K)]) (As0 := (fun G => [.ref (cp_b G + 21), .int 6, .int (qpk K)])) d_Q_readPatternHead_46 (C_Qleaf h2) rfl k_Q_leaf ml_Q_57 (Or.inl ⟨by decide, rfl⟩) (by omega) (Nat.le_of_ble_eq_true rfl) ?_
        refine kv_p (fun _ _ _ _ _ _ v => vv_goto (pc := 49) (tgt := 53) d_Q_readPatternHead_49 rfl v) ?_
        obtain ⟨rfl, rfl⟩ := w
        exact kv_e (fun _ _ => vv_aret (pc := 53) d_Q_readPatternHead_53 rfl (Or.inl ⟨_, rfl⟩) (cp_isr_rf _))
    · replace w := w.2 hc
      refine kv_p (fun _ _ _ _ _ _ v => vv_if_eq (pc := 22) (tgt := 35) d_Q_readPatternHead_22 rfl (fun hn => absurd hn hc) (fun _ => v)) ?_
      refine kv_p (fun _ _ _ _ _ _ v => vv_aload_n (pc := 25) d_Q_readPatternHead_25 rfl v) ?_
      refine kv_p (fun _ _ _ _ _ _ v => vv_iconst (pc := 26) (v := 1) d_Q_readPatternHead_26 rfl v) ?_
      refine kv_p (fun _ _ _ _ _ _ v => vv_iload_n (pc := 27) d_Q_readPatternHead_27 rfl v) ?_
      refine kv_p (fun _ _ _ _ _ _ v => vv_bipush (pc := 28) (v := 48) d_Q_readPatternHead_28 rfl v) ?_
      refine kv_p (fun _ _ _ _ _ _ v => vv_isub (pc := 30) d_Q_readPatternHead_30 v) ?_
      refine kv_86 (fun h3 => ?_)
      refine kw_cv (pc := 31) (As := [.int 1, .int ((qpk K) - 48)]) (As0 := (fun G => [.ref (cp_b G + 21), .int 1, .int ((qpk K) - 48)])) d_Q_readPatternHead_31 (C_Qleaf h3) rfl k_Q_leaf ml_Q_57 (Or.inl ⟨by decide, rfl⟩) (by omega) (Nat.le_of_ble_eq_true rfl) ?_
      obtain ⟨rfl, rfl⟩ := w
      exact kv_e (fun _ _ => vv_aret (pc := 34) d_Q_readPatternHead_34 rfl (Or.inl ⟨_, rfl⟩) (cp_isr_rf _))
theorem c_Q_readPatternHead {D : Nat} {o : cp_G → Option Value} {K' K : cp_K} (w : wp_Q_readPatternHead_0 D (fun G => .inl (o G)) K' K) : KC (D + 8) m_Q_readPatternHead (fun G => [.ref (cp_b G + 21)]) K o K' := KC.of2 rfl (fun G => by exact ⟨Nat.le_of_ble_eq_true rfl, rfl⟩) (b_Q_readPatternHead_0 w)
def wp_Q_readChoice_0 (D : Nat) (o : cp_G → cp_O) (K' K : cp_K) (x1 : Int32) : Prop := qok K ∧ ((¬ ((if qpk K = 91 then 1 else 0) : Int32) = 0 → ∃ r4 T2, KC (D + 7) m_Q_piece (fun G => [.ref (cp_b G + 21), .int 3, .int x1]) (qtk K 91) (fun G => some (va_rf (kr G r4))) T2 ∧ ((r4 = (0 : Nat) → JC (D + 8) m_Q_readChoice o K' 40 (fun G => [(0, .ref (cp_b G + 21)), (1, .int x1), (2, .int (K.2.1 21 2)), (3, va_rf (kr G r4))]) (fun _ => []) T2) ∧ (¬ r4 = (0 : Nat) → qok T2 ∧ ((¬ ((qpk T2) : Int32) = 60 → JC (D + 8) m_Q_readChoice o K' 40 (fun G => [(0, .ref (cp_b G + 21)), (1, .int x1), (2, .int (K.2.1 21 2)), (3, va_rf (kr G r4))]) (fun _ => []) T2) ∧ (((qpk T2) : Int32) = 60 → ((r4 = (0 : Nat) → (o = (fun G => .inl (some (va_rf (kr G 0)))) ∧ K' = T2)) ∧ (¬ r4 = (0 : Nat) → ((¬ ((if qpk T2 = 60 then 1 else 0) : Int32) = 0 → (¬ (ninit (kN (qtk T2 60) 9) (qtk T2 60).1.1 12 0 (K.2.1 21 2)).2.2.1 (qtk T2 60).1.1 5 = 0 → nd (ninit (kN (qtk T2 60) 9) (qtk T2 60).1.1 12 0 (K.2.1 21 2)) ((ninit (kN (qtk T2 60) 9) (qtk T2 60).1.1 12 0 (K.2.1 21 2)).2.2.1 (qtk T2 60).1.1 5) 9) ∧ ∃ r10 T8, KC (D + 7) m_Q_withPiece (fun G => [.ref (cp_b G + 21), va_rf (kr G (qtk T2 60).1.1), .int 3, .int x1]) (nadd (ninit (kN (qtk T2 60) 9) (qtk T2 60).1.1 12 0 (K.2.1 21 2)) (qtk T2 60).1.1 r4) (fun G => some (va_rf (kr G r10))) T8 ∧ ((r10 = (0 : Nat) → (o = (fun G => .inl (some (va_rf (kr G 0)))) ∧ K' = T8)) ∧ (¬ r10 = (0 : Nat) → qok T8 ∧ ((((if qpk T8 = 63 then 1 else 0) : Int32) = 0 → (o = (fun G => .inl (some (va_rf (kr G 0)))) ∧ K' = (qtk T8 63))) ∧ (¬ ((if qpk T8 = 63 then 1 else 0) : Int32) = 0 → ∃ r14 T12, KC (D + 7) m_Q_withPiece (fun G => [.ref (cp_b G + 21), va_rf (kr G (qtk T2 60).1.1), .int 3, .int x1]) (qtk T8 63) (fun G => some (va_rf (kr G r14))) T12 ∧ ((r14 = (0 : Nat) → (o = (fun G => .inl (some (va_rf (kr G 0)))) ∧ K' = T12)) ∧ (¬ r14 = (0 : Nat) → qok T12 ∧ ((((if qpk T12 = 58 then 1 else 0) : Int32) = 0 → (o = (fun G => .inl (some (va_rf (kr G 0)))) ∧ K' = (qtk T12 58))) ∧ (¬ ((if qpk T12 = 58 then 1 else 0) : Int32) = 0 → ∃ r18 T16, KC (D + 7) m_Q_withPiece (fun G => [.ref (cp_b G + 21), va_rf (kr G (qtk T2 60).1.1), .int 3, .int x1]) (qtk T12 58) (fun G => some (va_rf (kr G r18))) T16 ∧ ((r18 = (0 : Nat) → (o = (fun G => .inl (some (va_rf (kr G 0)))) ∧ K' = T16)) ∧ (¬ r18 = (0 : Nat) → qok T16 ∧ ((((if qpk T16 = 93 then 1 else 0) : Int32) = 0 → (o = (fun G => .inl (some (va_rf (kr G 0)))) ∧ K' = (qtk T16 93))) ∧ (¬ ((if qpk T16 = 93 then 1 else 0) : Int32) = 0 → (o = (fun G => .inl (some (va_rf (kr G (qtk T2 60).1.1)))) ∧ K' = (qtk T16 93))))))))))))))) ∧ (((if qpk T2 = 60 then 1 else 0) : Int32) = 0 → (o = (fun G => .inl (some (va_rf (kr G 0)))) ∧ K' = (qtk T2 60))))))))))) ∧ (((if qpk K = 91 then 1 else 0) : Int32) = 0 → (o = (fun G => .inl (some (va_rf (kr G 0)))) ∧ K' = (qtk K 91))))
theorem b_Q_readChoice_0 {D : Nat} {o : cp_G → cp_O} {K' K : cp_K} {x1 : Int32} (w : wp_Q_readChoice_0 D o K' K x1) : JC (D + 8) m_Q_readChoice o K' 0 (fun G => [(0, .ref (cp_b G + 21)), (1, .int x1)]) (fun _ => []) K := by
  unfold wp_Q_readChoice_0 at w
  intro G H d n0 z0 hd
  show kV G H m_Q_readChoice d n0 z0 (o G) K' 0 [(0, .ref (cp_b G + 21)), (1, .int x1)] [] K
  refine kv_p (fun _ _ _ _ _ _ v => vv_aload_n (pc := 0) d_Q_readChoice_0 rfl v) ?_
  refine kw_gi (pc := 1) d_Q_readChoice_1 fl_Q_19 (Or.inl ⟨by decide, rfl⟩) rfl rfl ?_
  refine kv_p (fun _ _ _ _ _ _ v => vv_istore_n (pc := 4) d_Q_readChoice_4 (Nat.le_of_ble_eq_true rfl) v) ?_
  refine kv_p (fun _ _ _ _ _ _ v => vv_aload_n (pc := 5) d_Q_readChoice_5 rfl v) ?_
  refine kv_p (fun _ _ _ _ _ _ v => vv_bipush (pc := 6) (v := 91) d_Q_readChoice_6 rfl v) ?_
  obtain ⟨b1, w⟩ := w
  refine kw_cv (pc := 8) (As := [.int 91]) (As0 := (fun G => [.ref (cp_b G + 21), .int 91])) d_Q_readChoice_8 (C_Qtake b1) rfl k_Q_take ml_Q_68 (Or.inl ⟨by decide, rfl⟩) (by omega) (Nat.le_of_ble_eq_true rfl) ?_
  by_cases hc : ((if qpk K = 91 then 1 else 0) : Int32) = 0
  · replace w := w.2 hc
    refine kv_p (fun _ _ _ _ _ _ v => vv_if_ne (pc := 11) (tgt := 16) d_Q_readChoice_11 rfl (fun hn => absurd hc hn) (fun _ => v)) ?_
    refine kw_null (pc := 14) d_Q_readChoice_14 ?_
    obtain ⟨rfl, rfl⟩ := w
    exact kv_e (fun _ _ => vv_aret (pc := 15) d_Q_readChoice_15 rfl (Or.inl ⟨_, rfl⟩) (cp_isr_rf _))
  · replace w := w.1 hc
    refine kv_p (fun _ _ _ _ _ _ v => vv_if_ne (pc := 11) (tgt := 16) d_Q_readChoice_11 rfl (fun _ => v) (fun hn => absurd hn hc)) ?_
    refine kv_p (fun _ _ _ _ _ _ v => vv_aload_n (pc := 16) d_Q_readChoice_16 rfl v) ?_
    refine kv_p (fun _ _ _ _ _ _ v => vv_iconst (pc := 17) (v := 3) d_Q_readChoice_17 rfl v) ?_
    refine kv_p (fun _ _ _ _ _ _ v => vv_iload_n (pc := 18) d_Q_readChoice_18 rfl v) ?_
    obtain ⟨r4, T2, c3, w⟩ := w
    refine kw_cv (pc := 19) (As := [.int 3, .int x1]) d_Q_readChoice_19 c3 rfl k_Q_piece ml_Q_28 (Or.inl ⟨by decide, rfl⟩) (by omega) (Nat.le_of_ble_eq_true rfl) ?_
    refine kv_p (fun _ _ _ _ _ _ v => vv_astore_n (pc := 22) d_Q_readChoice_22 (cp_isr_rf (kr G r4)) (Nat.le_of_ble_eq_true rfl) v) ?_
    refine kv_p (fun _ _ _ _ _ _ v => vv_aload_nr (pc := 23) d_Q_readChoice_23 (cp_isr_rf (kr G r4)) rfl v) ?_
    refine kw_ifnull (pc := 24) (tgt := 40) d_Q_readChoice_24 rfl (fun hc => ?_) (fun hc => ?_)
    · replace w := w.1 hc
      exact kw_sub [2, 3, 1, 0] rfl (w G H d n0 z0 hd)
    · replace w := w.2 hc
      refine kv_p (fun _ _ _ _ _ _ v => vv_aload_n (pc := 27) d_Q_readChoice_27 rfl v) ?_
      obtain ⟨b5, w⟩ := w
      refine kw_cv (pc := 28) (As := []) (As0 := (fun G => [.ref (cp_b G + 21)])) d_Q_readChoice_28 (C_Qpeek b5) rfl k_Q_peek ml_Q_53 (Or.inl ⟨by decide, rfl⟩) (by omega) (Nat.le_of_ble_eq_true rfl) ?_
      refine kv_p (fun _ _ _ _ _ _ v => vv_bipush (pc := 31) (v := 60) d_Q_readChoice_31 rfl v) ?_
      by_cases hc : ((qpk T2) : Int32) = 60
      · replace w := w.2 hc
        refine kv_p (fun _ _ _ _ _ _ v => vv_icmp_ne (pc := 33) (tgt := 40) d_Q_readChoice_33 rfl (fun hn => absurd hc hn) (fun _ => v)) ?_
        refine kv_p (fun _ _ _ _ _ _ v => vv_iconst (pc := 36) (v := 1) d_Q_readChoice_36 rfl v) ?_
        refine kv_p (fun _ _ _ _ _ _ v => vv_goto (pc := 37) (tgt := 41) d_Q_readChoice_37 rfl v) ?_
        refine kv_p (fun _ _ _ _ _ _ v => vv_istore (pc := 41) d_Q_readChoice_41 (Nat.le_of_ble_eq_true rfl) v) ?_
        refine kw_lv (lv := [(4, .int 1), (3, va_rf (kr G r4)), (2, .int (K.2.1 21 2)), (0, .ref (cp_b G + 21)), (1, .int x1)]) (by cases kr G r4 <;> rfl) ?_
        refine kv_p (fun _ _ _ _ _ _ v => vv_aload_nr (pc := 43) d_Q_readChoice_43 (cp_isr_rf (kr G r4)) rfl v) ?_
        refine kw_ifnull (pc := 44) (tgt := 66) d_Q_readChoice_44 rfl (fun hc => ?_) (fun hc => ?_)
        · replace w := w.1 hc
          refine kw_null (pc := 66) d_Q_readChoice_66 ?_
          obtain ⟨rfl, rfl⟩ := w
          exact kv_e (fun _ _ => vv_aret (pc := 67) d_Q_readChoice_67 rfl (Or.inl ⟨_, rfl⟩) (cp_isr_rf _))
        · replace w := w.2 hc
          refine kv_p (fun _ _ _ _ _ _ v => vv_aload_n (pc := 47) d_Q_readChoice_47 rfl v) ?_
          refine kv_p (fun _ _ _ _ _ _ v => vv_iload (pc := 48) d_Q_readChoice_48 rfl v) ?_
          refine kv_p (fun _ _ _ _ _ _ v => vv_if_eq (pc := 50) (tgt := 58) d_Q_readChoice_50 rfl (fun hn => absurd hn (by decide)) (fun _ => v)) ?_
          refine kv_p (fun _ _ _ _ _ _ v => vv_bipush (pc := 53) (v := 60) d_Q_readChoice_53 rfl v) ?_
          refine kv_p (fun _ _ _ _ _ _ v => vv_goto (pc := 55) (tgt := 60) d_Q_readChoice_55 rfl v) ?_
          refine kw_cv (pc := 60) (As := [.int 60]) (As0 := (fun G => [.ref (cp_b G + 21), .int 60])) d_Q_readChoice_60 (C_Qtake b5) rfl k_Q_take ml_Q_68 (Or.inl ⟨by decide, rfl⟩) (by omega) (Nat.le_of_ble_eq_true rfl) ?_
          by_cases hc : ((if qpk T2 = 60 then 1 else 0) : Int32) = 0
          · replace w := w.2 hc
            refine kv_p (fun _ _ _ _ _ _ v => vv_if_ne (pc := 63) (tgt := 68) d_Q_readChoice_63 rfl (fun hn => absurd hc hn) (fun _ => v)) ?_
            refine kw_null (pc := 66) d_Q_readChoice_66 ?_
            obtain ⟨rfl, rfl⟩ := w
            exact kv_e (fun _ _ => vv_aret (pc := 67) d_Q_readChoice_67 rfl (Or.inl ⟨_, rfl⟩) (cp_isr_rf _))
          · replace w := w.1 hc
            refine kv_p (fun _ _ _ _ _ _ v => vv_if_ne (pc := 63) (tgt := 68) d_Q_readChoice_63 rfl (fun _ => v) (fun hn => absurd hn hc)) ?_
            refine kv_86 (fun h6 => ?_)
            refine kw_new (pc := 68) (N := 7) d_Q_readChoice_68 cp_ok9 cl_Q_36 rfl (by decide) kdef9 ?_
            refine kv_p (fun _ _ _ _ _ _ v => vv_dup (pc := 71) d_Q_readChoice_71 (kr_cat _) v) ?_
            refine kv_p (fun _ _ _ _ _ _ v => vv_iload (pc := 72) d_Q_readChoice_72 rfl v) ?_
            refine kv_p (fun _ _ _ _ _ _ v => vv_if_eq (pc := 74) (tgt := 82) d_Q_readChoice_74 rfl (fun hn => absurd hn (by decide)) (fun _ => v)) ?_
            refine kv_p (fun _ _ _ _ _ _ v => vv_bipush (pc := 77) (v := 12) d_Q_readChoice_77 rfl v) ?_
            refine kv_p (fun _ _ _ _ _ _ v => vv_goto (pc := 79) (tgt := 84) d_Q_readChoice_79 rfl v) ?_
            refine kv_p (fun _ _ _ _ _ _ v => vv_iconst (pc := 84) (v := 0) d_Q_readChoice_84 rfl v) ?_
            refine kv_p (fun _ _ _ _ _ _ v => vv_iload_n (pc := 85) d_Q_readChoice_85 rfl v) ?_
            refine kw_ci (pc := 86) (As := [.int 12, .int 0, .int (K.2.1 21 2)]) (As0 := (fun G => [va_rf (kr G (qtk T2 60).1.1), .int 12, .int 0, .int (K.2.1 21 2)])) d_Q_readChoice_86 (C_Ninit (nd_self h6)) rfl k_N_init ml_Q_38 (nd_self h6) (by omega) (by cases kr G (qtk T2 60).1.1 <;> exact Nat.le_of_ble_eq_true rfl) ?_
            refine kv_p (fun _ _ _ _ _ _ v => vv_astore (pc := 89) d_Q_readChoice_89 (cp_isr_rf (kr G (qtk T2 60).1.1)) (Nat.le_of_ble_eq_true rfl) v) ?_
            refine kv_p (fun _ _ _ _ _ _ v => vv_aloadr (pc := 91) d_Q_readChoice_91 (cp_isr_rf (kr G (qtk T2 60).1.1)) rfl v) ?_
            refine kv_p (fun _ _ _ _ _ _ v => vv_aload_nr (pc := 93) d_Q_readChoice_93 (cp_isr_rf (kr G r4)) rfl v) ?_
            obtain ⟨b7, w⟩ := w
            refine kw_cn (pc := 94) (As := [va_rf (kr G r4)]) (As0 := (fun G => [va_rf (kr G (qtk T2 60).1.1), va_rf (kr G r4)])) d_Q_readChoice_94 (C_Nadd (nd_ninit (nd_self h6)) b7) rfl k_N_add ml_Q_49 (nd_ninit (nd_self h6)) (by omega) (Nat.le_of_ble_eq_true rfl) ?_
            refine kv_p (fun _ _ _ _ _ _ v => vv_aload_n (pc := 97) d_Q_readChoice_97 rfl v) ?_
            refine kv_p (fun _ _ _ _ _ _ v => vv_aloadr (pc := 98) d_Q_readChoice_98 (cp_isr_rf (kr G (qtk T2 60).1.1)) rfl v) ?_
            refine kv_p (fun _ _ _ _ _ _ v => vv_iconst (pc := 100) (v := 3) d_Q_readChoice_100 rfl v) ?_
            refine kv_p (fun _ _ _ _ _ _ v => vv_iload_n (pc := 101) d_Q_readChoice_101 rfl v) ?_
            obtain ⟨r10, T8, c9, w⟩ := w
            refine kw_cv (pc := 102) (As := [va_rf (kr G (qtk T2 60).1.1), .int 3, .int x1]) d_Q_readChoice_102 c9 rfl k_Q_withPiece ml_Q_60 (Or.inl ⟨by decide, rfl⟩) (by omega) (Nat.le_of_ble_eq_true rfl) ?_
            refine kw_ifnull (pc := 105) (tgt := 161) d_Q_readChoice_105 rfl (fun hc => ?_) (fun hc => ?_)
            · replace w := w.1 hc
              refine kv_p (fun _ _ _ _ _ _ v => vv_iconst (pc := 161) (v := 0) d_Q_readChoice_161 rfl v) ?_
              refine kv_p (fun _ _ _ _ _ _ v => vv_istore (pc := 162) d_Q_readChoice_162 (Nat.le_of_ble_eq_true rfl) v) ?_
              refine kw_lv (lv := [(6, .int 0), (5, va_rf (kr G (qtk T2 60).1.1)), (4, .int 1), (3, va_rf (kr G r4)), (2, .int (K.2.1 21 2)), (0, .ref (cp_b G + 21)), (1, .int x1)]) (by cases kr G (qtk T2 60).1.1 <;> rfl) ?_
              refine kv_p (fun _ _ _ _ _ _ v => vv_iload (pc := 164) d_Q_readChoice_164 rfl v) ?_
              refine kv_p (fun _ _ _ _ _ _ v => vv_if_eq (pc := 166) (tgt := 174) d_Q_readChoice_166 rfl (fun _ => v) (fun hn => absurd (by decide) hn)) ?_
              refine kw_null (pc := 174) d_Q_readChoice_174 ?_
              obtain ⟨rfl, rfl⟩ := w
              exact kv_e (fun _ _ => vv_aret (pc := 175) d_Q_readChoice_175 rfl (Or.inl ⟨_, rfl⟩) (cp_isr_rf _))
            · replace w := w.2 hc
              refine kv_p (fun _ _ _ _ _ _ v => vv_aload_n (pc := 108) d_Q_readChoice_108 rfl v) ?_
              refine kv_p (fun _ _ _ _ _ _ v => vv_bipush (pc := 109) (v := 63) d_Q_readChoice_109 rfl v) ?_
              obtain ⟨b11, w⟩ := w
              refine kw_cv (pc := 111) (As := [.int 63]) (As0 := (fun G => [.ref (cp_b G + 21), .int 63])) d_Q_readChoice_111 (C_Qtake b11) rfl k_Q_take ml_Q_68 (Or.inl ⟨by decide, rfl⟩) (by omega) (Nat.le_of_ble_eq_true rfl) ?_
              by_cases hc : ((if qpk T8 = 63 then 1 else 0) : Int32) = 0
              · replace w := w.1 hc
                refine kv_p (fun _ _ _ _ _ _ v => vv_if_eq (pc := 114) (tgt := 161) d_Q_readChoice_114 rfl (fun _ => v) (fun hn => absurd hc hn)) ?_
                refine kv_p (fun _ _ _ _ _ _ v => vv_iconst (pc := 161) (v := 0) d_Q_readChoice_161 rfl v) ?_
                refine kv_p (fun _ _ _ _ _ _ v => vv_istore (pc := 162) d_Q_readChoice_162 (Nat.le_of_ble_eq_true rfl) v) ?_
                refine kw_lv (lv := [(6, .int 0), (5, va_rf (kr G (qtk T2 60).1.1)), (4, .int 1), (3, va_rf (kr G r4)), (2, .int (K.2.1 21 2)), (0, .ref (cp_b G + 21)), (1, .int x1)]) (by cases kr G (qtk T2 60).1.1 <;> rfl) ?_
                refine kv_p (fun _ _ _ _ _ _ v => vv_iload (pc := 164) d_Q_readChoice_164 rfl v) ?_
                refine kv_p (fun _ _ _ _ _ _ v => vv_if_eq (pc := 166) (tgt := 174) d_Q_readChoice_166 rfl (fun _ => v) (fun hn => absurd (by decide) hn)) ?_
                refine kw_null (pc := 174) d_Q_readChoice_174 ?_
                obtain ⟨rfl, rfl⟩ := w
                exact kv_e (fun _ _ => vv_aret (pc := 175) d_Q_readChoice_175 rfl (Or.inl ⟨_, rfl⟩) (cp_isr_rf _))
              · replace w := w.2 hc
                refine kv_p (fun _ _ _ _ _ _ v => vv_if_eq (pc := 114) (tgt := 161) d_Q_readChoice_114 rfl (fun hn => absurd hn hc) (fun _ => v)) ?_
                refine kv_p (fun _ _ _ _ _ _ v => vv_aload_n (pc := 117) d_Q_readChoice_117 rfl v) ?_
                refine kv_p (fun _ _ _ _ _ _ v => vv_aloadr (pc := 118) d_Q_readChoice_118 (cp_isr_rf (kr G (qtk T2 60).1.1)) rfl v) ?_
                refine kv_p (fun _ _ _ _ _ _ v => vv_iconst (pc := 120) (v := 3) d_Q_readChoice_120 rfl v) ?_
                refine kv_p (fun _ _ _ _ _ _ v => vv_iload_n (pc := 121) d_Q_readChoice_121 rfl v) ?_
                obtain ⟨r14, T12, c13, w⟩ := w
                refine kw_cv (pc := 122) (As := [va_rf (kr G (qtk T2 60).1.1), .int 3, .int x1]) d_Q_readChoice_122 c13 rfl k_Q_withPiece ml_Q_60 (Or.inl ⟨by decide, rfl⟩) (by omega) (Nat.le_of_ble_eq_true rfl) ?_
                refine kw_ifnull (pc := 125) (tgt := 161) d_Q_readChoice_125 rfl (fun hc => ?_) (fun hc => ?_)
                · replace w := w.1 hc
                  refine kv_p (fun _ _ _ _ _ _ v => vv_iconst (pc := 161) (v := 0) d_Q_readChoice_161 rfl v) ?_
                  refine kv_p (fun _ _ _ _ _ _ v => vv_istore (pc := 162) d_Q_readChoice_162 (Nat.le_of_ble_eq_true rfl) v) ?_
                  refine kw_lv (lv := [(6, .int 0), (5, va_rf (kr G (qtk T2 60).1.1)), (4, .int 1), (3, va_rf (kr G r4)), (2, .int (K.2.1 21 2)), (0, .ref (cp_b G + 21)), (1, .int x1)]) (by cases kr G (qtk T2 60).1.1 <;> rfl) ?_
                  refine kv_p (fun _ _ _ _ _ _ v => vv_iload (pc := 164) d_Q_readChoice_164 rfl v) ?_
                  refine kv_p (fun _ _ _ _ _ _ v => vv_if_eq (pc := 166) (tgt := 174) d_Q_readChoice_166 rfl (fun _ => v) (fun hn => absurd (by decide) hn)) ?_
                  refine kw_null (pc := 174) d_Q_readChoice_174 ?_
                  obtain ⟨rfl, rfl⟩ := w
                  exact kv_e (fun _ _ => vv_aret (pc := 175) d_Q_readChoice_175 rfl (Or.inl ⟨_, rfl⟩) (cp_isr_rf _))
                · replace w := w.2 hc
                  refine kv_p (fun _ _ _ _ _ _ v => vv_aload_n (pc := 128) d_Q_readChoice_128 rfl v) ?_
                  refine kv_p (fun _ _ _ _ _ _ v => vv_bipush (pc := 129) (v := 58) d_Q_readChoice_129 rfl v) ?_
                  obtain ⟨b15, w⟩ := w
                  refine kw_cv (pc := 131) (As := [.int 58]) (As0 := (fun G => [.ref (cp_b G + 21), .int 58])) d_Q_readChoice_131 (C_Qtake b15) rfl k_Q_take ml_Q_68 (Or.inl ⟨by decide, rfl⟩) (by omega) (Nat.le_of_ble_eq_true rfl) ?_
                  by_cases hc : ((if qpk T12 = 58 then 1 else 0) : Int32) = 0
                  · replace w := w.1 hc
                    refine kv_p (fun _ _ _ _ _ _ v => vv_if_eq (pc := 134) (tgt := 161) d_Q_readChoice_134 rfl (fun _ => v) (fun hn => absurd hc hn)) ?_
                    refine kv_p (fun _ _ _ _ _ _ v => vv_iconst (pc := 161) (v := 0) d_Q_readChoice_161 rfl v) ?_
                    refine kv_p (fun _ _ _ _ _ _ v => vv_istore (pc := 162) d_Q_readChoice_162 (Nat.le_of_ble_eq_true rfl) v) ?_
                    refine kw_lv (lv := [(6, .int 0), (5, va_rf (kr G (qtk T2 60).1.1)), (4, .int 1), (3, va_rf (kr G r4)), (2, .int (K.2.1 21 2)), (0, .ref (cp_b G + 21)), (1, .int x1)]) (by cases kr G (qtk T2 60).1.1 <;> rfl) ?_
                    refine kv_p (fun _ _ _ _ _ _ v => vv_iload (pc := 164) d_Q_readChoice_164 rfl v) ?_
                    refine kv_p (fun _ _ _ _ _ _ v => vv_if_eq (pc := 166) (tgt := 174) d_Q_readChoice_166 rfl (fun _ => v) (fun hn => absurd (by decide) hn)) ?_
                    refine kw_null (pc := 174) d_Q_readChoice_174 ?_
                    obtain ⟨rfl, rfl⟩ := w
                    exact kv_e (fun _ _ => vv_aret (pc := 175) d_Q_readChoice_175 rfl (Or.inl ⟨_, rfl⟩) (cp_isr_rf _))
                  · replace w := w.2 hc
                    refine kv_p (fun _ _ _ _ _ _ v => vv_if_eq (pc := 134) (tgt := 161) d_Q_readChoice_134 rfl (fun hn => absurd hn hc) (fun _ => v)) ?_
                    refine kv_p (fun _ _ _ _ _ _ v => vv_aload_n (pc := 137) d_Q_readChoice_137 rfl v) ?_
                    refine kv_p (fun _ _ _ _ _ _ v => vv_aloadr (pc := 138) d_Q_readChoice_138 (cp_isr_rf (kr G (qtk T2 60).1.1)) rfl v) ?_
                    refine kv_p (fun _ _ _ _ _ _ v => vv_iconst (pc := 140) (v := 3) d_Q_readChoice_140 rfl v) ?_
                    refine kv_p (fun _ _ _ _ _ _ v => vv_iload_n (pc := 141) d_Q_readChoice_141 rfl v) ?_
                    obtain ⟨r18, T16, c17, w⟩ := w
                    refine kw_cv (pc := 142) (As := [va_rf (kr G (qtk T2 60).1.1), .int 3, .int x1]) d_Q_readChoice_142 c17 rfl k_Q_withPiece ml_Q_60 (Or.inl ⟨by decide, rfl⟩) (by omega) (Nat.le_of_ble_eq_true rfl) ?_
                    refine kw_ifnull (pc := 145) (tgt := 161) d_Q_readChoice_145 rfl (fun hc => ?_) (fun hc => ?_)
                    · replace w := w.1 hc
                      refine kv_p (fun _ _ _ _ _ _ v => vv_iconst (pc := 161) (v := 0) d_Q_readChoice_161 rfl v) ?_
                      refine kv_p (fun _ _ _ _ _ _ v => vv_istore (pc := 162) d_Q_readChoice_162 (Nat.le_of_ble_eq_true rfl) v) ?_
                      refine kw_lv (lv := [(6, .int 0), (5, va_rf (kr G (qtk T2 60).1.1)), (4, .int 1), (3, va_rf (kr G r4)), (2, .int (K.2.1 21 2)), (0, .ref (cp_b G + 21)), (1, .int x1)]) (by cases kr G (qtk T2 60).1.1 <;> rfl) ?_
                      refine kv_p (fun _ _ _ _ _ _ v => vv_iload (pc := 164) d_Q_readChoice_164 rfl v) ?_
                      refine kv_p (fun _ _ _ _ _ _ v => vv_if_eq (pc := 166) (tgt := 174) d_Q_readChoice_166 rfl (fun _ => v) (fun hn => absurd (by decide) hn)) ?_
                      refine kw_null (pc := 174) d_Q_readChoice_174 ?_
                      obtain ⟨rfl, rfl⟩ := w
                      exact kv_e (fun _ _ => vv_aret (pc := 175) d_Q_readChoice_175 rfl (Or.inl ⟨_, rfl⟩) (cp_isr_rf _))
                    · replace w := w.2 hc
                      refine kv_p (fun _ _ _ _ _ _ v => vv_aload_n (pc := 148) d_Q_readChoice_148 rfl v) ?_
                      refine kv_p (fun _ _ _ _ _ _ v => vv_bipush (pc := 149) (v := 93) d_Q_readChoice_149 rfl v) ?_
                      obtain ⟨b19, w⟩ := w
                      refine kw_cv (pc := 151) (As := [.int 93]) (As0 := (fun G => [.ref (cp_b G + 21), .int 93])) d_Q_readChoice_151 (C_Qtake b19) rfl k_Q_take ml_Q_68 (Or.inl ⟨by decide, rfl⟩) (by omega) (Nat.le_of_ble_eq_true rfl) ?_
                      by_cases hc : ((if qpk T16 = 93 then 1 else 0) : Int32) = 0
                      · replace w := w.1 hc
                        refine kv_p (fun _ _ _ _ _ _ v => vv_if_eq (pc := 154) (tgt := 161) d_Q_readChoice_154 rfl (fun _ => v) (fun hn => absurd hc hn)) ?_
                        refine kv_p (fun _ _ _ _ _ _ v => vv_iconst (pc := 161) (v := 0) d_Q_readChoice_161 rfl v) ?_
                        refine kv_p (fun _ _ _ _ _ _ v => vv_istore (pc := 162) d_Q_readChoice_162 (Nat.le_of_ble_eq_true rfl) v) ?_
                        refine kw_lv (lv := [(6, .int 0), (5, va_rf (kr G (qtk T2 60).1.1)), (4, .int 1), (3, va_rf (kr G r4)), (2, .int (K.2.1 21 2)), (0, .ref (cp_b G + 21)), (1, .int x1)]) (by cases kr G (qtk T2 60).1.1 <;> rfl) ?_
                        refine kv_p (fun _ _ _ _ _ _ v => vv_iload (pc := 164) d_Q_readChoice_164 rfl v) ?_
                        refine kv_p (fun _ _ _ _ _ _ v => vv_if_eq (pc := 166) (tgt := 174) d_Q_readChoice_166 rfl (fun _ => v) (fun hn => absurd (by decide) hn)) ?_
                        refine kw_null (pc := 174) d_Q_readChoice_174 ?_
                        obtain ⟨rfl, rfl⟩ := w
                        exact kv_e (fun _ _ => vv_aret (pc := 175) d_Q_readChoice_175 rfl (Or.inl ⟨_, rfl⟩) (cp_isr_rf _))
                      · replace w := w.2 hc
                        refine kv_p (fun _ _ _ _ _ _ v => vv_if_eq (pc := 154) (tgt := 161) d_Q_readChoice_154 rfl (fun hn => absurd hn hc) (fun _ => v)) ?_
                        refine kv_p (fun _ _ _ _ _ _ v => vv_iconst (pc := 157) (v := 1) d_Q_readChoice_157 rfl v) ?_
                        refine kv_p (fun _ _ _ _ _ _ v => vv_goto (pc := 158) (tgt := 162) d_Q_readChoice_158 rfl v) ?_
                        refine kv_p (fun _ _ _ _ _ _ v => vv_istore (pc := 162) d_Q_readChoice_162 (Nat.le_of_ble_eq_true rfl) v) ?_
                        refine kw_lv (lv := [(6, .int 1), (5, va_rf (kr G (qtk T2 60).1.1)), (4, .int 1), (3, va_rf (kr G r4)), (2, .int (K.2.1 21 2)), (0, .ref (cp_b G + 21)), (1, .int x1)]) (by cases kr G (qtk T2 60).1.1 <;> rfl) ?_
                        refine kv_p (fun _ _ _ _ _ _ v => vv_iload (pc := 164) d_Q_readChoice_164 rfl v) ?_
                        refine kv_p (fun _ _ _ _ _ _ v => vv_if_eq (pc := 166) (tgt := 174) d_Q_readChoice_166 rfl (fun hn => absurd hn (by decide)) (fun _ => v)) ?_
                        refine kv_p (fun _ _ _ _ _ _ v => vv_aloadr (pc := 169) d_Q_readChoice_169 (cp_isr_rf (kr G (qtk T2 60).1.1)) rfl v) ?_
                        refine kv_p (fun _ _ _ _ _ _ v => vv_goto (pc := 171) (tgt := 175) d_Q_readChoice_171 rfl v) ?_
                        obtain ⟨rfl, rfl⟩ := w
                        exact kv_e (fun _ _ => vv_aret (pc := 175) d_Q_readChoice_175 rfl (Or.inl ⟨_, rfl⟩) (cp_isr_rf _))
      · replace w := w.1 hc
        refine kv_p (fun _ _ _ _ _ _ v => vv_icmp_ne (pc := 33) (tgt := 40) d_Q_readChoice_33 rfl (fun _ => v) (fun hn => absurd hn hc)) ?_
        exact kw_sub [2, 3, 1, 0] rfl (w G H d n0 z0 hd)
theorem c_Q_readChoice {D : Nat} {o : cp_G → Option Value} {K' K : cp_K} {x1 : Int32} (w : wp_Q_readChoice_0 D (fun G => .inl (o G)) K' K x1) : KC (D + 8) m_Q_readChoice (fun G => [.ref (cp_b G + 21), .int x1]) K o K' := KC.of2 rfl (fun G => by exact ⟨Nat.le_of_ble_eq_true rfl, rfl⟩) (b_Q_readChoice_0 w)
def wp_Q_readChoice_40 (D : Nat) (o : cp_G → cp_O) (K' K : cp_K) (x1 : Int32) (x2 : Int32) (p3 : Nat) : Prop := ((p3 = (0 : Nat) → (o = (fun G => .inl (some (va_rf (kr G 0)))) ∧ K' = K)) ∧ (¬ p3 = (0 : Nat) → qok K ∧ ((¬ ((if qpk K = 61 then 1 else 0) : Int32) = 0 → (¬ (ninit (kN (qtk K 61) 9) (qtk K 61).1.1 11 0 x2).2.2.1 (qtk K 61).1.1 5 = 0 → nd (ninit (kN (qtk K 61) 9) (qtk K 61).1.1 11 0 x2) ((ninit (kN (qtk K 61) 9) (qtk K 61).1.1 11 0 x2).2.2.1 (qtk K 61).1.1 5) 9) ∧ ∃ r6 T4, KC (D + 7) m_Q_withPiece (fun G => [.ref (cp_b G + 21), va_rf (kr G (qtk K 61).1.1), .int 3, .int x1]) (nadd (ninit (kN (qtk K 61) 9) (qtk K 61).1.1 11 0 x2) (qtk K 61).1.1 p3) (fun G => some (va_rf (kr G r6))) T4 ∧ ((r6 = (0 : Nat) → (o = (fun G => .inl (some (va_rf (kr G 0)))) ∧ K' = T4)) ∧ (¬ r6 = (0 : Nat) → qok T4 ∧ ((((if qpk T4 = 63 then 1 else 0) : Int32) = 0 → (o = (fun G => .inl (some (va_rf (kr G 0)))) ∧ K' = (qtk T4 63))) ∧ (¬ ((if qpk T4 = 63 then 1 else 0) : Int32) = 0 → ∃ r10 T8, KC (D + 7) m_Q_withPiece (fun G => [.ref (cp_b G + 21), va_rf (kr G (qtk K 61).1.1), .int 3, .int x1]) (qtk T4 63) (fun G => some (va_rf (kr G r10))) T8 ∧ ((r10 = (0 : Nat) → (o = (fun G => .inl (some (va_rf (kr G 0)))) ∧ K' = T8)) ∧ (¬ r10 = (0 : Nat) → qok T8 ∧ ((((if qpk T8 = 58 then 1 else 0) : Int32) = 0 → (o = (fun G => .inl (some (va_rf (kr G 0)))) ∧ K' = (qtk T8 58))) ∧ (¬ ((if qpk T8 = 58 then 1 else 0) : Int32) = 0 → ∃ r14 T12, KC (D + 7) m_Q_withPiece (fun G => [.ref (cp_b G + 21), va_rf (kr G (qtk K 61).1.1), .int 3, .int x1]) (qtk T8 58) (fun G => some (va_rf (kr G r14))) T12 ∧ ((r14 = (0 : Nat) → (o = (fun G => .inl (some (va_rf (kr G 0)))) ∧ K' = T12)) ∧ (¬ r14 = (0 : Nat) → qok T12 ∧ ((((if qpk T12 = 93 then 1 else 0) : Int32) = 0 → (o = (fun G => .inl (some (va_rf (kr G 0)))) ∧ K' = (qtk T12 93))) ∧ (¬ ((if qpk T12 = 93 then 1 else 0) : Int32) = 0 → (o = (fun G => .inl (some (va_rf (kr G (qtk K 61).1.1)))) ∧ K' = (qtk T12 93))))))))))))))) ∧ (((if qpk K = 61 then 1 else 0) : Int32) = 0 → (o = (fun G => .inl (some (va_rf (kr G 0)))) ∧ K' = (qtk K 61))))))
theorem b_Q_readChoice_40 {D : Nat} {o : cp_G → cp_O} {K' K : cp_K} {x1 : Int32} {x2 : Int32} {p3 : Nat} (w : wp_Q_readChoice_40 D o K' K x1 x2 p3) : JC (D + 8) m_Q_readChoice o K' 40 (fun G => [(0, .ref (cp_b G + 21)), (1, .int x1), (2, .int x2), (3, va_rf (kr G p3))]) (fun _ => []) K := by
  unfold wp_Q_readChoice_40 at w
  intro G H d n0 z0 hd
  show kV G H m_Q_readChoice d n0 z0 (o G) K' 40 [(0, .ref (cp_b G + 21)), (1, .int x1), (2, .int x2), (3, va_rf (kr G p3))] [] K
  refine kv_p (fun _ _ _ _ _ _ v => vv_iconst (pc := 40) (v := 0) d_Q_readChoice_40 rfl v) ?_
  refine kv_p (fun _ _ _ _ _ _ v => vv_istore (pc := 41) d_Q_readChoice_41 (Nat.le_of_ble_eq_true rfl) v) ?_
  refine kw_lv (lv := [(4, .int 0), (0, .ref (cp_b G + 21)), (1, .int x1), (2, .int x2), (3, va_rf (kr G p3))]) (by cases kr G p3 <;> rfl) ?_
  refine kv_p (fun _ _ _ _ _ _ v => vv_aload_nr (pc := 43) d_Q_readChoice_43 (cp_isr_rf (kr G p3)) rfl v) ?_
  refine kw_ifnull (pc := 44) (tgt := 66) d_Q_readChoice_44 rfl (fun hc => ?_) (fun hc => ?_)
  · replace w := w.1 hc
    refine kw_null (pc := 66) d_Q_readChoice_66 ?_
    obtain ⟨rfl, rfl⟩ := w
    exact kv_e (fun _ _ => vv_aret (pc := 67) d_Q_readChoice_67 rfl (Or.inl ⟨_, rfl⟩) (cp_isr_rf _))
  · replace w := w.2 hc
    refine kv_p (fun _ _ _ _ _ _ v => vv_aload_n (pc := 47) d_Q_readChoice_47 rfl v) ?_
    refine kv_p (fun _ _ _ _ _ _ v => vv_iload (pc := 48) d_Q_readChoice_48 rfl v) ?_
    refine kv_p (fun _ _ _ _ _ _ v => vv_if_eq (pc := 50) (tgt := 58) d_Q_readChoice_50 rfl (fun _ => v) (fun hn => absurd (by decide) hn)) ?_
    refine kv_p (fun _ _ _ _ _ _ v => vv_bipush (pc := 58) (v := 61) d_Q_readChoice_58 rfl v) ?_
    obtain ⟨b1, w⟩ := w
    refine kw_cv (pc := 60) (As := [.int 61]) (As0 := (fun G => [.ref (cp_b G + 21), .int 61])) d_Q_readChoice_60 (C_Qtake b1) rfl k_Q_take ml_Q_68 (Or.inl ⟨by decide, rfl⟩) (by omega) (Nat.le_of_ble_eq_true rfl) ?_
    by_cases hc : ((if qpk K = 61 then 1 else 0) : Int32) = 0
    · replace w := w.2 hc
      refine kv_p (fun _ _ _ _ _ _ v => vv_if_ne (pc := 63) (tgt := 68) d_Q_readChoice_63 rfl (fun hn => absurd hc hn) (fun _ => v)) ?_
      refine kw_null (pc := 66) d_Q_readChoice_66 ?_
      obtain ⟨rfl, rfl⟩ := w
      exact kv_e (fun _ _ => vv_aret (pc := 67) d_Q_readChoice_67 rfl (Or.inl ⟨_, rfl⟩) (cp_isr_rf _))
    · replace w := w.1 hc
      refine kv_p (fun _ _ _ _ _ _ v => vv_if_ne (pc := 63) (tgt := 68) d_Q_readChoice_63 rfl (fun _ => v) (fun hn => absurd hn hc)) ?_
      refine kv_86 (fun h2 => ?_)
      refine kw_new (pc := 68) (N := 7) d_Q_readChoice_68 cp_ok9 cl_Q_36 rfl (by decide) kdef9 ?_
      refine kv_p (fun _ _ _ _ _ _ v => vv_dup (pc := 71) d_Q_readChoice_71 (kr_cat _) v) ?_
      refine kv_p (fun _ _ _ _ _ _ v => vv_iload (pc := 72) d_Q_readChoice_72 rfl v) ?_
      refine kv_p (fun _ _ _ _ _ _ v => vv_if_eq (pc := 74) (tgt := 82) d_Q_readChoice_74 rfl (fun _ => v) (fun hn => absurd (by decide) hn)) ?_
      refine kv_p (fun _ _ _ _ _ _ v => vv_bipush (pc := 82) (v := 11) d_Q_readChoice_82 rfl v) ?_
      refine kv_p (fun _ _ _ _ _ _ v => vv_iconst (pc := 84) (v := 0) d_Q_readChoice_84 rfl v) ?_
      refine kv_p (fun _ _ _ _ _ _ v => vv_iload_n (pc := 85) d_Q_readChoice_85 rfl v) ?_
      refine kw_ci (pc := 86) (As := [.int 11, .int 0, .int x2]) (As0 := (fun G => [va_rf (kr G (qtk K 61).1.1), .int 11, .int 0, .int x2])) d_Q_readChoice_86 (C_Ninit (nd_self h2)) rfl k_N_init ml_Q_38 (nd_self h2) (by omega) (by cases kr G (qtk K 61).1.1 <;> exact Nat.le_of_ble_eq_true rfl) ?_
      refine kv_p (fun _ _ _ _ _ _ v => vv_astore (pc := 89) d_Q_readChoice_89 (cp_isr_rf (kr G (qtk K 61).1.1)) (Nat.le_of_ble_eq_true rfl) v) ?_
      refine kv_p (fun _ _ _ _ _ _ v => vv_aloadr (pc := 91) d_Q_readChoice_91 (cp_isr_rf (kr G (qtk K 61).1.1)) rfl v) ?_
      refine kv_p (fun _ _ _ _ _ _ v => vv_aload_nr (pc := 93) d_Q_readChoice_93 (cp_isr_rf (kr G p3)) rfl v) ?_
      obtain ⟨b3, w⟩ := w
      refine kw_cn (pc := 94) (As := [va_rf (kr G p3)]) (As0 := (fun G => [va_rf (kr G (qtk K 61).1.1), va_rf (kr G p3)])) d_Q_readChoice_94 (C_Nadd (nd_ninit (nd_self h2)) b3) rfl k_N_add ml_Q_49 (nd_ninit (nd_self h2)) (by omega) (Nat.le_of_ble_eq_true rfl) ?_
      refine kv_p (fun _ _ _ _ _ _ v => vv_aload_n (pc := 97) d_Q_readChoice_97 rfl v) ?_
      refine kv_p (fun _ _ _ _ _ _ v => vv_aloadr (pc := 98) d_Q_readChoice_98 (cp_isr_rf (kr G (qtk K 61).1.1)) rfl v) ?_
      refine kv_p (fun _ _ _ _ _ _ v => vv_iconst (pc := 100) (v := 3) d_Q_readChoice_100 rfl v) ?_
      refine kv_p (fun _ _ _ _ _ _ v => vv_iload_n (pc := 101) d_Q_readChoice_101 rfl v) ?_
      obtain ⟨r6, T4, c5, w⟩ := w
      refine kw_cv (pc := 102) (As := [va_rf (kr G (qtk K 61).1.1), .int 3, .int x1]) d_Q_readChoice_102 c5 rfl k_Q_withPiece ml_Q_60 (Or.inl ⟨by decide, rfl⟩) (by omega) (Nat.le_of_ble_eq_true rfl) ?_
      refine kw_ifnull (pc := 105) (tgt := 161) d_Q_readChoice_105 rfl (fun hc => ?_) (fun hc => ?_)
      · replace w := w.1 hc
        refine kv_p (fun _ _ _ _ _ _ v => vv_iconst (pc := 161) (v := 0) d_Q_readChoice_161 rfl v) ?_
        refine kv_p (fun _ _ _ _ _ _ v => vv_istore (pc := 162) d_Q_readChoice_162 (Nat.le_of_ble_eq_true rfl) v) ?_
        refine kw_lv (lv := [(6, .int 0), (5, va_rf (kr G (qtk K 61).1.1)), (4, .int 0), (0, .ref (cp_b G + 21)), (1, .int x1), (2, .int x2), (3, va_rf (kr G p3))]) (by cases kr G (qtk K 61).1.1 <;> rfl) ?_
        refine kv_p (fun _ _ _ _ _ _ v => vv_iload (pc := 164) d_Q_readChoice_164 rfl v) ?_
        refine kv_p (fun _ _ _ _ _ _ v => vv_if_eq (pc := 166) (tgt := 174) d_Q_readChoice_166 rfl (fun _ => v) (fun hn => absurd (by decide) hn)) ?_
        refine kw_null (pc := 174) d_Q_readChoice_174 ?_
        obtain ⟨rfl, rfl⟩ := w
        exact kv_e (fun _ _ => vv_aret (pc := 175) d_Q_readChoice_175 rfl (Or.inl ⟨_, rfl⟩) (cp_isr_rf _))
      · replace w := w.2 hc
        refine kv_p (fun _ _ _ _ _ _ v => vv_aload_n (pc := 108) d_Q_readChoice_108 rfl v) ?_
        refine kv_p (fun _ _ _ _ _ _ v => vv_bipush (pc := 109) (v := 63) d_Q_readChoice_109 rfl v) ?_
        obtain ⟨b7, w⟩ := w
        refine kw_cv (pc := 111) (As := [.int 63]) (As0 := (fun G => [.ref (cp_b G + 21), .int 63])) d_Q_readChoice_111 (C_Qtake b7) rfl k_Q_take ml_Q_68 (Or.inl ⟨by decide, rfl⟩) (by omega) (Nat.le_of_ble_eq_true rfl) ?_
        by_cases hc : ((if qpk T4 = 63 then 1 else 0) : Int32) = 0
        · replace w := w.1 hc
          refine kv_p (fun _ _ _ _ _ _ v => vv_if_eq (pc := 114) (tgt := 161) d_Q_readChoice_114 rfl (fun _ => v) (fun hn => absurd hc hn)) ?_
          refine kv_p (fun _ _ _ _ _ _ v => vv_iconst (pc := 161) (v := 0) d_Q_readChoice_161 rfl v) ?_
          refine kv_p (fun _ _ _ _ _ _ v => vv_istore (pc := 162) d_Q_readChoice_162 (Nat.le_of_ble_eq_true rfl) v) ?_
          refine kw_lv (lv := [(6, .int 0), (5, va_rf (kr G (qtk K 61).1.1)), (4, .int 0), (0, .ref (cp_b G + 21)), (1, .int x1), (2, .int x2), (3, va_rf (kr G p3))]) (by cases kr G (qtk K 61).1.1 <;> rfl) ?_
          refine kv_p (fun _ _ _ _ _ _ v => vv_iload (pc := 164) d_Q_readChoice_164 rfl v) ?_
          refine kv_p (fun _ _ _ _ _ _ v => vv_if_eq (pc := 166) (tgt := 174) d_Q_readChoice_166 rfl (fun _ => v) (fun hn => absurd (by decide) hn)) ?_
          refine kw_null (pc := 174) d_Q_readChoice_174 ?_
          obtain ⟨rfl, rfl⟩ := w
          exact kv_e (fun _ _ => vv_aret (pc := 175) d_Q_readChoice_175 rfl (Or.inl ⟨_, rfl⟩) (cp_isr_rf _))
        · replace w := w.2 hc
          refine kv_p (fun _ _ _ _ _ _ v => vv_if_eq (pc := 114) (tgt := 161) d_Q_readChoice_114 rfl (fun hn => absurd hn hc) (fun _ => v)) ?_
          refine kv_p (fun _ _ _ _ _ _ v => vv_aload_n (pc := 117) d_Q_readChoice_117 rfl v) ?_
          refine kv_p (fun _ _ _ _ _ _ v => vv_aloadr (pc := 118) d_Q_readChoice_118 (cp_isr_rf (kr G (qtk K 61).1.1)) rfl v) ?_
          refine kv_p (fun _ _ _ _ _ _ v => vv_iconst (pc := 120) (v := 3) d_Q_readChoice_120 rfl v) ?_
          refine kv_p (fun _ _ _ _ _ _ v => vv_iload_n (pc := 121) d_Q_readChoice_121 rfl v) ?_
          obtain ⟨r10, T8, c9, w⟩ := w
          refine kw_cv (pc := 122) (As := [va_rf (kr G (qtk K 61).1.1), .int 3, .int x1]) d_Q_readChoice_122 c9 rfl k_Q_withPiece ml_Q_60 (Or.inl ⟨by decide, rfl⟩) (by omega) (Nat.le_of_ble_eq_true rfl) ?_
          refine kw_ifnull (pc := 125) (tgt := 161) d_Q_readChoice_125 rfl (fun hc => ?_) (fun hc => ?_)
          · replace w := w.1 hc
            refine kv_p (fun _ _ _ _ _ _ v => vv_iconst (pc := 161) (v := 0) d_Q_readChoice_161 rfl v) ?_
            refine kv_p (fun _ _ _ _ _ _ v => vv_istore (pc := 162) d_Q_readChoice_162 (Nat.le_of_ble_eq_true rfl) v) ?_
            refine kw_lv (lv := [(6, .int 0), (5, va_rf (kr G (qtk K 61).1.1)), (4, .int 0), (0, .ref (cp_b G + 21)), (1, .int x1), (2, .int x2), (3, va_rf (kr G p3))]) (by cases kr G (qtk K 61).1.1 <;> rfl) ?_
            refine kv_p (fun _ _ _ _ _ _ v => vv_iload (pc := 164) d_Q_readChoice_164 rfl v) ?_
            refine kv_p (fun _ _ _ _ _ _ v => vv_if_eq (pc := 166) (tgt := 174) d_Q_readChoice_166 rfl (fun _ => v) (fun hn => absurd (by decide) hn)) ?_
            refine kw_null (pc := 174) d_Q_readChoice_174 ?_
            obtain ⟨rfl, rfl⟩ := w
            exact kv_e (fun _ _ => vv_aret (pc := 175) d_Q_readChoice_175 rfl (Or.inl ⟨_, rfl⟩) (cp_isr_rf _))
          · replace w := w.2 hc
            refine kv_p (fun _ _ _ _ _ _ v => vv_aload_n (pc := 128) d_Q_readChoice_128 rfl v) ?_
            refine kv_p (fun _ _ _ _ _ _ v => vv_bipush (pc := 129) (v := 58) d_Q_readChoice_129 rfl v) ?_
            obtain ⟨b11, w⟩ := w
            refine kw_cv (pc := 131) (As := [.int 58]) (As0 := (fun G => [.ref (cp_b G + 21), .int 58])) d_Q_readChoice_131 (C_Qtake b11) rfl k_Q_take ml_Q_68 (Or.inl ⟨by decide, rfl⟩) (by omega) (Nat.le_of_ble_eq_true rfl) ?_
            by_cases hc : ((if qpk T8 = 58 then 1 else 0) : Int32) = 0
            · replace w := w.1 hc
              refine kv_p (fun _ _ _ _ _ _ v => vv_if_eq (pc := 134) (tgt := 161) d_Q_readChoice_134 rfl (fun _ => v) (fun hn => absurd hc hn)) ?_
              refine kv_p (fun _ _ _ _ _ _ v => vv_iconst (pc := 161) (v := 0) d_Q_readChoice_161 rfl v) ?_
              refine kv_p (fun _ _ _ _ _ _ v => vv_istore (pc := 162) d_Q_readChoice_162 (Nat.le_of_ble_eq_true rfl) v) ?_
              refine kw_lv (lv := [(6, .int 0), (5, va_rf (kr G (qtk K 61).1.1)), (4, .int 0), (0, .ref (cp_b G + 21)), (1, .int x1), (2, .int x2), (3, va_rf (kr G p3))]) (by cases kr G (qtk K 61).1.1 <;> rfl) ?_
              refine kv_p (fun _ _ _ _ _ _ v => vv_iload (pc := 164) d_Q_readChoice_164 rfl v) ?_
              refine kv_p (fun _ _ _ _ _ _ v => vv_if_eq (pc := 166) (tgt := 174) d_Q_readChoice_166 rfl (fun _ => v) (fun hn => absurd (by decide) hn)) ?_
              refine kw_null (pc := 174) d_Q_readChoice_174 ?_
              obtain ⟨rfl, rfl⟩ := w
              exact kv_e (fun _ _ => vv_aret (pc := 175) d_Q_readChoice_175 rfl (Or.inl ⟨_, rfl⟩) (cp_isr_rf _))
            · replace w := w.2 hc
              refine kv_p (fun _ _ _ _ _ _ v => vv_if_eq (pc := 134) (tgt := 161) d_Q_readChoice_134 rfl (fun hn => absurd hn hc) (fun _ => v)) ?_
              refine kv_p (fun _ _ _ _ _ _ v => vv_aload_n (pc := 137) d_Q_readChoice_137 rfl v) ?_
              refine kv_p (fun _ _ _ _ _ _ v => vv_aloadr (pc := 138) d_Q_readChoice_138 (cp_isr_rf (kr G (qtk K 61).1.1)) rfl v) ?_
              refine kv_p (fun _ _ _ _ _ _ v => vv_iconst (pc := 140) (v := 3) d_Q_readChoice_140 rfl v) ?_
              refine kv_p (fun _ _ _ _ _ _ v => vv_iload_n (pc := 141) d_Q_readChoice_141 rfl v) ?_
              obtain ⟨r14, T12, c13, w⟩ := w
              refine kw_cv (pc := 142) (As := [va_rf (kr G (qtk K 61).1.1), .int 3, .int x1]) d_Q_readChoice_142 c13 rfl k_Q_withPiece ml_Q_60 (Or.inl ⟨by decide, rfl⟩) (by omega) (Nat.le_of_ble_eq_true rfl) ?_
              refine kw_ifnull (pc := 145) (tgt := 161) d_Q_readChoice_145 rfl (fun hc => ?_) (fun hc => ?_)
              · replace w := w.1 hc
                refine kv_p (fun _ _ _ _ _ _ v => vv_iconst (pc := 161) (v := 0) d_Q_readChoice_161 rfl v) ?_
                refine kv_p (fun _ _ _ _ _ _ v => vv_istore (pc := 162) d_Q_readChoice_162 (Nat.le_of_ble_eq_true rfl) v) ?_
                refine kw_lv (lv := [(6, .int 0), (5, va_rf (kr G (qtk K 61).1.1)), (4, .int 0), (0, .ref (cp_b G + 21)), (1, .int x1), (2, .int x2), (3, va_rf (kr G p3))]) (by cases kr G (qtk K 61).1.1 <;> rfl) ?_
                refine kv_p (fun _ _ _ _ _ _ v => vv_iload (pc := 164) d_Q_readChoice_164 rfl v) ?_
                refine kv_p (fun _ _ _ _ _ _ v => vv_if_eq (pc := 166) (tgt := 174) d_Q_readChoice_166 rfl (fun _ => v) (fun hn => absurd (by decide) hn)) ?_
                refine kw_null (pc := 174) d_Q_readChoice_174 ?_
                obtain ⟨rfl, rfl⟩ := w
                exact kv_e (fun _ _ => vv_aret (pc := 175) d_Q_readChoice_175 rfl (Or.inl ⟨_, rfl⟩) (cp_isr_rf _))
              · replace w := w.2 hc
                refine kv_p (fun _ _ _ _ _ _ v => vv_aload_n (pc := 148) d_Q_readChoice_148 rfl v) ?_
                refine kv_p (fun _ _ _ _ _ _ v => vv_bipush (pc := 149) (v := 93) d_Q_readChoice_149 rfl v) ?_
                obtain ⟨b15, w⟩ := w
                refine kw_cv (pc := 151) (As := [.int 93]) (As0 := (fun G => [.ref (cp_b G + 21), .int 93])) d_Q_readChoice_151 (C_Qtake b15) rfl k_Q_take ml_Q_68 (Or.inl ⟨by decide, rfl⟩) (by omega) (Nat.le_of_ble_eq_true rfl) ?_
                by_cases hc : ((if qpk T12 = 93 then 1 else 0) : Int32) = 0
                · replace w := w.1 hc
                  refine kv_p (fun _ _ _ _ _ _ v => vv_if_eq (pc := 154) (tgt := 161) d_Q_readChoice_154 rfl (fun _ => v) (fun hn => absurd hc hn)) ?_
                  refine kv_p (fun _ _ _ _ _ _ v => vv_iconst (pc := 161) (v := 0) d_Q_readChoice_161 rfl v) ?_
                  refine kv_p (fun _ _ _ _ _ _ v => vv_istore (pc := 162) d_Q_readChoice_162 (Nat.le_of_ble_eq_true rfl) v) ?_
                  refine kw_lv (lv := [(6, .int 0), (5, va_rf (kr G (qtk K 61).1.1)), (4, .int 0), (0, .ref (cp_b G + 21)), (1, .int x1), (2, .int x2), (3, va_rf (kr G p3))]) (by cases kr G (qtk K 61).1.1 <;> rfl) ?_
                  refine kv_p (fun _ _ _ _ _ _ v => vv_iload (pc := 164) d_Q_readChoice_164 rfl v) ?_
                  refine kv_p (fun _ _ _ _ _ _ v => vv_if_eq (pc := 166) (tgt := 174) d_Q_readChoice_166 rfl (fun _ => v) (fun hn => absurd (by decide) hn)) ?_
                  refine kw_null (pc := 174) d_Q_readChoice_174 ?_
                  obtain ⟨rfl, rfl⟩ := w
                  exact kv_e (fun _ _ => vv_aret (pc := 175) d_Q_readChoice_175 rfl (Or.inl ⟨_, rfl⟩) (cp_isr_rf _))
                · replace w := w.2 hc
                  refine kv_p (fun _ _ _ _ _ _ v => vv_if_eq (pc := 154) (tgt := 161) d_Q_readChoice_154 rfl (fun hn => absurd hn hc) (fun _ => v)) ?_
                  refine kv_p (fun _ _ _ _ _ _ v => vv_iconst (pc := 157) (v := 1) d_Q_readChoice_157 rfl v) ?_
                  refine kv_p (fun _ _ _ _ _ _ v => vv_goto (pc := 158) (tgt := 162) d_Q_readChoice_158 rfl v) ?_
                  refine kv_p (fun _ _ _ _ _ _ v => vv_istore (pc := 162) d_Q_readChoice_162 (Nat.le_of_ble_eq_true rfl) v) ?_
                  refine kw_lv (lv := [(6, .int 1), (5, va_rf (kr G (qtk K 61).1.1)), (4, .int 0), (0, .ref (cp_b G + 21)), (1, .int x1), (2, .int x2), (3, va_rf (kr G p3))]) (by cases kr G (qtk K 61).1.1 <;> rfl) ?_
                  refine kv_p (fun _ _ _ _ _ _ v => vv_iload (pc := 164) d_Q_readChoice_164 rfl v) ?_
                  refine kv_p (fun _ _ _ _ _ _ v => vv_if_eq (pc := 166) (tgt := 174) d_Q_readChoice_166 rfl (fun hn => absurd hn (by decide)) (fun _ => v)) ?_
                  refine kv_p (fun _ _ _ _ _ _ v => vv_aloadr (pc := 169) d_Q_readChoice_169 (cp_isr_rf (kr G (qtk K 61).1.1)) rfl v) ?_
                  refine kv_p (fun _ _ _ _ _ _ v => vv_goto (pc := 171) (tgt := 175) d_Q_readChoice_171 rfl v) ?_
                  obtain ⟨rfl, rfl⟩ := w
                  exact kv_e (fun _ _ => vv_aret (pc := 175) d_Q_readChoice_175 rfl (Or.inl ⟨_, rfl⟩) (cp_isr_rf _))
def wp_Q_readPieces_0 (D : Nat) (o : cp_G → cp_O) (K' K : cp_K) (p1 : Nat) (x2 : Int32) (x3 : Int32) (x4 : Int32) : Prop := JC (D + 8) m_Q_readPieces o K' 3 (fun G => [(0, .ref (cp_b G + 21)), (1, va_rf (kr G p1)), (2, .int x2), (3, .int x3), (4, .int x4), (5, .int 1)]) (fun _ => []) K
theorem b_Q_readPieces_0 {D : Nat} {o : cp_G → cp_O} {K' K : cp_K} {p1 : Nat} {x2 : Int32} {x3 : Int32} {x4 : Int32} (w : wp_Q_readPieces_0 D o K' K p1 x2 x3 x4) : JC (D + 8) m_Q_readPieces o K' 0 (fun G => [(0, .ref (cp_b G + 21)), (1, va_rf (kr G p1)), (2, .int x2), (3, .int x3), (4, .int x4)]) (fun _ => []) K := by
  unfold wp_Q_readPieces_0 at w
  intro G H d n0 z0 hd
  show kV G H m_Q_readPieces d n0 z0 (o G) K' 0 [(0, .ref (cp_b G + 21)), (1, va_rf (kr G p1)), (2, .int x2), (3, .int x3), (4, .int x4)] [] K
  refine kv_p (fun _ _ _ _ _ _ v => vv_iconst (pc := 0) (v := 1) d_Q_readPieces_0 rfl v) ?_
  refine kv_p (fun _ _ _ _ _ _ v => vv_istore (pc := 1) d_Q_readPieces_1 (Nat.le_of_ble_eq_true rfl) v) ?_
  exact kw_sub [1, 2, 3, 4, 5, 0] rfl (w G H d n0 z0 hd)
theorem c_Q_readPieces {D : Nat} {o : cp_G → Option Value} {K' K : cp_K} {p1 : Nat} {x2 : Int32} {x3 : Int32} {x4 : Int32} (w : wp_Q_readPieces_0 D (fun G => .inl (o G)) K' K p1 x2 x3 x4) : KC (D + 8) m_Q_readPieces (fun G => [.ref (cp_b G + 21), va_rf (kr G p1), .int x2, .int x3, .int x4]) K o K' := KC.of2 rfl (fun G => by cases kr G p1 <;> exact ⟨Nat.le_of_ble_eq_true rfl, rfl⟩) (b_Q_readPieces_0 w)
def wp_Q_readPieces_3 (D : Nat) (o : cp_G → cp_O) (K' K : cp_K) (p1 : Nat) (x2 : Int32) (x3 : Int32) (x4 : Int32) (x5 : Int32) : Prop := ((6 < (x5 : Int32) → (o = (fun _ => .inl (some (.int 0))) ∧ K' = K)) ∧ (¬ 6 < (x5 : Int32) → ∃ r3 T1, KC (D + 7) m_Q_withPiece (fun G => [.ref (cp_b G + 21), va_rf (kr G p1), .int x2, .int x3]) K (fun G => some (va_rf (kr G r3))) T1 ∧ ((¬ r3 = (0 : Nat) → qok T1 ∧ ((¬ ((qpk T1) : Int32) = x4 → JC (D + 8) m_Q_readPieces o K' 3 (fun G => [(0, .ref (cp_b G + 21)), (1, va_rf (kr G p1)), (2, .int x2), (3, .int x3), (4, .int x4), (5, .int (x5 + 1))]) (fun _ => []) T1) ∧ (((qpk T1) : Int32) = x4 → (((x4 : Int32) = 0 → (o = (fun _ => .inl (some (.int 1))) ∧ K' = T1)) ∧ (¬ (x4 : Int32) = 0 → ((((if qpk T1 = x4 then 1 else 0) : Int32) = 0 → (o = (fun _ => .inl (some (.int 0))) ∧ K' = (qtk T1 x4))) ∧ (¬ ((if qpk T1 = x4 then 1 else 0) : Int32) = 0 → (o = (fun _ => .inl (some (.int 1))) ∧ K' = (qtk T1 x4))))))))) ∧ (r3 = (0 : Nat) → (o = (fun _ => .inl (some (.int 0))) ∧ K' = T1)))))
theorem b_Q_readPieces_3 {D : Nat} {o : cp_G → cp_O} {K' K : cp_K} {p1 : Nat} {x2 : Int32} {x3 : Int32} {x4 : Int32} {x5 : Int32} (w : wp_Q_readPieces_3 D o K' K p1 x2 x3 x4 x5) : JC (D + 8) m_Q_readPieces o K' 3 (fun G => [(0, .ref (cp_b G + 21)), (1, va_rf (kr G p1)), (2, .int x2), (3, .int x3), (4, .int x4), (5, .int x5)]) (fun _ => []) K := by
  unfold wp_Q_readPieces_3 at w
  intro G H d n0 z0 hd
  show kV G H m_Q_readPieces d n0 z0 (o G) K' 3 [(0, .ref (cp_b G + 21)), (1, va_rf (kr G p1)), (2, .int x2), (3, .int x3), (4, .int x4), (5, .int x5)] [] K
  refine kv_p (fun _ _ _ _ _ _ v => vv_iload (pc := 3) d_Q_readPieces_3 rfl v) ?_
  refine kv_p (fun _ _ _ _ _ _ v => vv_bipush (pc := 5) (v := 6) d_Q_readPieces_5 rfl v) ?_
  by_cases hc : 6 < (x5 : Int32)
  · replace w := w.1 hc
    refine kv_p (fun _ _ _ _ _ _ v => vv_icmp_gt (pc := 7) (tgt := 57) d_Q_readPieces_7 rfl (fun _ => v) (fun hn => absurd hc hn)) ?_
    refine kv_p (fun _ _ _ _ _ _ v => vv_iconst (pc := 57) (v := 0) d_Q_readPieces_57 rfl v) ?_
    obtain ⟨rfl, rfl⟩ := w
    exact kv_e (fun _ _ => vv_zret (pc := 58) d_Q_readPieces_58 rfl rfl)
  · replace w := w.2 hc
    refine kv_p (fun _ _ _ _ _ _ v => vv_icmp_gt (pc := 7) (tgt := 57) d_Q_readPieces_7 rfl (fun hn => absurd hn hc) (fun _ => v)) ?_
    refine kv_p (fun _ _ _ _ _ _ v => vv_aload_n (pc := 10) d_Q_readPieces_10 rfl v) ?_
    refine kv_p (fun _ _ _ _ _ _ v => vv_aload_nr (pc := 11) d_Q_readPieces_11 (cp_isr_rf (kr G p1)) rfl v) ?_
    refine kv_p (fun _ _ _ _ _ _ v => vv_iload_n (pc := 12) d_Q_readPieces_12 rfl v) ?_
    refine kv_p (fun _ _ _ _ _ _ v => vv_iload_n (pc := 13) d_Q_readPieces_13 rfl v) ?_
    obtain ⟨r3, T1, c2, w⟩ := w
    refine kw_cv (pc := 14) (As := [va_rf (kr G p1), .int x2, .int x3]) d_Q_readPieces_14 c2 rfl k_Q_withPiece ml_Q_60 (Or.inl ⟨by decide, rfl⟩) (by omega) (Nat.le_of_ble_eq_true rfl) ?_
    refine kw_ifnonnull (pc := 17) (tgt := 22) d_Q_readPieces_17 rfl (fun hc => ?_) (fun hc => ?_)
    · replace w := w.1 hc
      refine kv_p (fun _ _ _ _ _ _ v => vv_aload_n (pc := 22) d_Q_readPieces_22 rfl v) ?_
      obtain ⟨b4, w⟩ := w
      refine kw_cv (pc := 23) (As := []) (As0 := (fun G => [.ref (cp_b G + 21)])) d_Q_readPieces_23 (C_Qpeek b4) rfl k_Q_peek ml_Q_53 (Or.inl ⟨by decide, rfl⟩) (by omega) (Nat.le_of_ble_eq_true rfl) ?_
      refine kv_p (fun _ _ _ _ _ _ v => vv_iload (pc := 26) d_Q_readPieces_26 rfl v) ?_
      by_cases hc : ((qpk T1) : Int32) = x4
      · replace w := w.2 hc
        refine kv_p (fun _ _ _ _ _ _ v => vv_icmp_ne (pc := 28) (tgt := 51) d_Q_readPieces_28 rfl (fun hn => absurd hc hn) (fun _ => v)) ?_
        refine kv_p (fun _ _ _ _ _ _ v => vv_iload (pc := 31) d_Q_readPieces_31 rfl v) ?_
        by_cases hc : (x4 : Int32) = 0
        · replace w := w.1 hc
          refine kv_p (fun _ _ _ _ _ _ v => vv_if_eq (pc := 33) (tgt := 45) d_Q_readPieces_33 rfl (fun _ => v) (fun hn => absurd hc hn)) ?_
          refine kv_p (fun _ _ _ _ _ _ v => vv_iconst (pc := 45) (v := 1) d_Q_readPieces_45 rfl v) ?_
          refine kv_p (fun _ _ _ _ _ _ v => vv_goto (pc := 46) (tgt := 50) d_Q_readPieces_46 rfl v) ?_
          obtain ⟨rfl, rfl⟩ := w
          exact kv_e (fun _ _ => vv_zret (pc := 50) d_Q_readPieces_50 rfl rfl)
        · replace w := w.2 hc
          refine kv_p (fun _ _ _ _ _ _ v => vv_if_eq (pc := 33) (tgt := 45) d_Q_readPieces_33 rfl (fun hn => absurd hn hc) (fun _ => v)) ?_
          refine kv_p (fun _ _ _ _ _ _ v => vv_aload_n (pc := 36) d_Q_readPieces_36 rfl v) ?_
          refine kv_p (fun _ _ _ _ _ _ v => vv_iload (pc := 37) d_Q_readPieces_37 rfl v) ?_
          refine kw_cv (pc := 39) (As := [.int x4]) (As0 := (fun G => [.ref (cp_b G + 21), .int x4])) d_Q_readPieces_39 (C_Qtake b4) rfl k_Q_take ml_Q_68 (Or.inl ⟨by decide, rfl⟩) (by omega) (Nat.le_of_ble_eq_true rfl) ?_
          by_cases hc : ((if qpk T1 = x4 then 1 else 0) : Int32) = 0
          · replace w := w.1 hc
            refine kv_p (fun _ _ _ _ _ _ v => vv_if_eq (pc := 42) (tgt := 49) d_Q_readPieces_42 rfl (fun _ => v) (fun hn => absurd hc hn)) ?_
            refine kv_p (fun _ _ _ _ _ _ v => vv_iconst (pc := 49) (v := 0) d_Q_readPieces_49 rfl v) ?_
            obtain ⟨rfl, rfl⟩ := w
            exact kv_e (fun _ _ => vv_zret (pc := 50) d_Q_readPieces_50 rfl rfl)
          · replace w := w.2 hc
            refine kv_p (fun _ _ _ _ _ _ v => vv_if_eq (pc := 42) (tgt := 49) d_Q_readPieces_42 rfl (fun hn => absurd hn hc) (fun _ => v)) ?_
            refine kv_p (fun _ _ _ _ _ _ v => vv_iconst (pc := 45) (v := 1) d_Q_readPieces_45 rfl v) ?_
            refine kv_p (fun _ _ _ _ _ _ v => vv_goto (pc := 46) (tgt := 50) d_Q_readPieces_46 rfl v) ?_
            obtain ⟨rfl, rfl⟩ := w
            exact kv_e (fun _ _ => vv_zret (pc := 50) d_Q_readPieces_50 rfl rfl)
      · replace w := w.1 hc
        refine kv_p (fun _ _ _ _ _ _ v => vv_icmp_ne (pc := 28) (tgt := 51) d_Q_readPieces_28 rfl (fun _ => v) (fun hn => absurd hn hc)) ?_
        refine kv_p (fun _ _ _ _ _ _ v => vv_iinc (pc := 51) (v := (x5 + 1)) d_Q_readPieces_51 rfl rfl (Nat.le_of_ble_eq_true rfl) v) ?_
        refine kv_p (fun _ _ _ _ _ _ v => vv_goto (pc := 54) (tgt := 3) d_Q_readPieces_54 rfl v) ?_
        exact kw_sub [1, 2, 3, 4, 5, 0] rfl (w G H d n0 z0 hd)
    · replace w := w.2 hc
      refine kv_p (fun _ _ _ _ _ _ v => vv_iconst (pc := 20) (v := 0) d_Q_readPieces_20 rfl v) ?_
      obtain ⟨rfl, rfl⟩ := w
      exact kv_e (fun _ _ => vv_zret (pc := 21) d_Q_readPieces_21 rfl rfl)
def wp_Q_readVariables_0 (D : Nat) (o : cp_G → cp_O) (K' K : cp_K) (p1 : Nat) (x2 : Int32) (x3 : Int32) : Prop := JC (D + 8) m_Q_readVariables o K' 3 (fun G => [(0, .ref (cp_b G + 21)), (1, va_rf (kr G p1)), (2, .int x2), (3, .int x3), (4, .int 1)]) (fun _ => []) K
theorem b_Q_readVariables_0 {D : Nat} {o : cp_G → cp_O} {K' K : cp_K} {p1 : Nat} {x2 : Int32} {x3 : Int32} (w : wp_Q_readVariables_0 D o K' K p1 x2 x3) : JC (D + 8) m_Q_readVariables o K' 0 (fun G => [(0, .ref (cp_b G + 21)), (1, va_rf (kr G p1)), (2, .int x2), (3, .int x3)]) (fun _ => []) K := by
  unfold wp_Q_readVariables_0 at w
  intro G H d n0 z0 hd
  show kV G H m_Q_readVariables d n0 z0 (o G) K' 0 [(0, .ref (cp_b G + 21)), (1, va_rf (kr G p1)), (2, .int x2), (3, .int x3)] [] K
  refine kv_p (fun _ _ _ _ _ _ v => vv_iconst (pc := 0) (v := 1) d_Q_readVariables_0 rfl v) ?_
  refine kv_p (fun _ _ _ _ _ _ v => vv_istore (pc := 1) d_Q_readVariables_1 (Nat.le_of_ble_eq_true rfl) v) ?_
  exact kw_sub [1, 2, 3, 4, 0] rfl (w G H d n0 z0 hd)
theorem c_Q_readVariables {D : Nat} {o : cp_G → Option Value} {K' K : cp_K} {p1 : Nat} {x2 : Int32} {x3 : Int32} (w : wp_Q_readVariables_0 D (fun G => .inl (o G)) K' K p1 x2 x3) : KC (D + 8) m_Q_readVariables (fun G => [.ref (cp_b G + 21), va_rf (kr G p1), .int x2, .int x3]) K o K' := KC.of2 rfl (fun G => by cases kr G p1 <;> exact ⟨Nat.le_of_ble_eq_true rfl, rfl⟩) (b_Q_readVariables_0 w)
def wp_Q_readVariables_3 (D : Nat) (o : cp_G → cp_O) (K' K : cp_K) (p1 : Nat) (x2 : Int32) (x3 : Int32) (x4 : Int32) : Prop := ((x2 < (x4 : Int32) → (o = (fun _ => .inl (some (.int 0))) ∧ K' = K)) ∧ (¬ x2 < (x4 : Int32) → qok K ∧ ((¬ ((if 97 ≤ (qpk K) ∧ (qpk K) ≤ 122 then 1 else 0) : Int32) = 0 → nd K p1 9 ∧ (¬ (qlf K 5 (qpk K)).2.2.1 p1 5 = 0 → nd (qlf K 5 (qpk K)) ((qlf K 5 (qpk K)).2.2.1 p1 5) 9) ∧ ((((if qpk (nadd (qlf K 5 (qpk K)) p1 K.1.1) = x3 then 1 else 0) : Int32) = 0 → JC (D + 8) m_Q_readVariables o K' 3 (fun G => [(0, .ref (cp_b G + 21)), (1, va_rf (kr G p1)), (2, .int x2), (3, .int x3), (4, .int (x4 + 1))]) (fun _ => []) (qtk (nadd (qlf K 5 (qpk K)) p1 K.1.1) x3)) ∧ (¬ ((if qpk (nadd (qlf K 5 (qpk K)) p1 K.1.1) = x3 then 1 else 0) : Int32) = 0 → (o = (fun _ => .inl (some (.int 1))) ∧ K' = (qtk (nadd (qlf K 5 (qpk K)) p1 K.1.1) x3))))) ∧ (((if 97 ≤ (qpk K) ∧ (qpk K) ≤ 122 then 1 else 0) : Int32) = 0 → (o = (fun _ => .inl (some (.int 0))) ∧ K' = K)))))
theorem b_Q_readVariables_3 {D : Nat} {o : cp_G → cp_O} {K' K : cp_K} {p1 : Nat} {x2 : Int32} {x3 : Int32} {x4 : Int32} (w : wp_Q_readVariables_3 D o K' K p1 x2 x3 x4) : JC (D + 8) m_Q_readVariables o K' 3 (fun G => [(0, .ref (cp_b G + 21)), (1, va_rf (kr G p1)), (2, .int x2), (3, .int x3), (4, .int x4)]) (fun _ => []) K := by
  unfold wp_Q_readVariables_3 at w
  intro G H d n0 z0 hd
  show kV G H m_Q_readVariables d n0 z0 (o G) K' 3 [(0, .ref (cp_b G + 21)), (1, va_rf (kr G p1)), (2, .int x2), (3, .int x3), (4, .int x4)] [] K
  refine kv_p (fun _ _ _ _ _ _ v => vv_iload (pc := 3) d_Q_readVariables_3 rfl v) ?_
  refine kv_p (fun _ _ _ _ _ _ v => vv_iload_n (pc := 5) d_Q_readVariables_5 rfl v) ?_
  by_cases hc : x2 < (x4 : Int32)
  · replace w := w.1 hc
    refine kv_p (fun _ _ _ _ _ _ v => vv_icmp_gt (pc := 6) (tgt := 52) d_Q_readVariables_6 rfl (fun _ => v) (fun hn => absurd hc hn)) ?_
    refine kv_p (fun _ _ _ _ _ _ v => vv_iconst (pc := 52) (v := 0) d_Q_readVariables_52 rfl v) ?_
    obtain ⟨rfl, rfl⟩ := w
    exact kv_e (fun _ _ => vv_zret (pc := 53) d_Q_readVariables_53 rfl rfl)
  · replace w := w.2 hc
    refine kv_p (fun _ _ _ _ _ _ v => vv_icmp_gt (pc := 6) (tgt := 52) d_Q_readVariables_6 rfl (fun hn => absurd hn hc) (fun _ => v)) ?_
    refine kv_p (fun _ _ _ _ _ _ v => vv_aload_n (pc := 9) d_Q_readVariables_9 rfl v) ?_
    obtain ⟨b1, w⟩ := w
    refine kw_cv (pc := 10) (As := []) (As0 := (fun G => [.ref (cp_b G + 21)])) d_Q_readVariables_10 (C_Qpeek b1) rfl k_Q_peek ml_Q_53 (Or.inl ⟨by decide, rfl⟩) (by omega) (Nat.le_of_ble_eq_true rfl) ?_
    refine kv_p (fun _ _ _ _ _ _ v => vv_istore (pc := 13) d_Q_readVariables_13 (Nat.le_of_ble_eq_true rfl) v) ?_
    refine kv_p (fun _ _ _ _ _ _ v => vv_iload (pc := 15) d_Q_readVariables_15 rfl v) ?_
    refine kw_csn (pc := 17) (As := [.int (qpk K)]) d_Q_readVariables_17 (SC_P_isVariable (qpk K)) k_P_isVariable nl_Q_79 ks_P_isVariable (by omega) (Nat.le_of_ble_eq_true rfl) ?_
    by_cases hc : ((if 97 ≤ (qpk K) ∧ (qpk K) ≤ 122 then 1 else 0) : Int32) = 0
    · replace w := w.2 hc
      refine kv_p (fun _ _ _ _ _ _ v => vv_if_ne (pc := 20) (tgt := 25) d_Q_readVariables_20 rfl (fun hn => absurd hc hn) (fun _ => v)) ?_
      refine kv_p (fun _ _ _ _ _ _ v => vv_iconst (pc := 23) (v := 0) d_Q_readVariables_23 rfl v) ?_
      obtain ⟨rfl, rfl⟩ := w
      exact kv_e (fun _ _ => vv_zret (pc := 24) d_Q_readVariables_24 rfl rfl)
    · replace w := w.1 hc
      refine kv_p (fun _ _ _ _ _ _ v => vv_if_ne (pc := 20) (tgt := 25) d_Q_readVariables_20 rfl (fun _ => v) (fun hn => absurd hn hc)) ?_
      refine kv_p (fun _ _ _ _ _ _ v => vv_aload_nr (pc := 25) d_Q_readVariables_25 (cp_isr_rf (kr G p1)) rfl v) ?_
      refine kv_p (fun _ _ _ _ _ _ v => vv_aload_n (pc := 26) d_Q_readVariables_26 rfl v) ?_
      refine kv_p (fun _ _ _ _ _ _ v => vv_iconst (pc := 27) (v := 5) d_Q_readVariables_27 rfl v) ?_
      refine kv_p (fun _ _ _ _ _ _ v => vv_iload (pc := 28) d_Q_readVariables_28 rfl v) ?_
      refine kv_86 (fun h2 => ?_)
      refine kw_cv (pc := 30) (As := [.int 5, .int (qpk K)]) (As0 := (fun G => [.ref (cp_b G + 21), .int 5, .int (qpk K)])) d_Q_readVariables_30 (C_Qleaf h2) rfl k_Q_leaf ml_Q_57 (Or.inl ⟨by decide, rfl⟩) (by omega) (by cases kr G p1 <;> exact Nat.le_of_ble_eq_true rfl) ?_
      obtain ⟨b3, w⟩ := w
      obtain ⟨b4, w⟩ := w
      refine kw_cn (pc := 33) (As := [va_rf (kr G K.1.1)]) (As0 := (fun G => [va_rf (kr G p1), va_rf (kr G K.1.1)])) d_Q_readVariables_33 (C_Nadd (nd_qlf b3) b4) rfl k_N_add ml_Q_49 (nd_qlf b3) (by omega) (Nat.le_of_ble_eq_true rfl) ?_
      refine kv_p (fun _ _ _ _ _ _ v => vv_aload_n (pc := 36) d_Q_readVariables_36 rfl v) ?_
      refine kv_p (fun _ _ _ _ _ _ v => vv_iload_n (pc := 37) d_Q_readVariables_37 rfl v) ?_
      refine kw_cv (pc := 38) (As := [.int x3]) (As0 := (fun G => [.ref (cp_b G + 21), .int x3])) d_Q_readVariables_38 (C_Qtake (qok_nadd (qok_qlf b1 h2) (nd_qlf b3) b4)) rfl k_Q_take ml_Q_68 (Or.inl ⟨by decide, rfl⟩) (by omega) (Nat.le_of_ble_eq_true rfl) ?_
      by_cases hc : ((if qpk (nadd (qlf K 5 (qpk K)) p1 K.1.1) = x3 then 1 else 0) : Int32) = 0
      · replace w := w.1 hc
        refine kv_p (fun _ _ _ _ _ _ v => vv_if_eq (pc := 41) (tgt := 46) d_Q_readVariables_41 rfl (fun _ => v) (fun hn => absurd hc hn)) ?_
        refine kv_p (fun _ _ _ _ _ _ v => vv_iinc (pc := 46) (v := (x4 + 1)) d_Q_readVariables_46 rfl rfl (Nat.le_of_ble_eq_true rfl) v) ?_
        refine kv_p (fun _ _ _ _ _ _ v => vv_goto (pc := 49) (tgt := 3) d_Q_readVariables_49 rfl v) ?_
        exact kw_sub [2, 3, 4, 5, 0] rfl (w G H d n0 z0 hd)
      · replace w := w.2 hc
        refine kv_p (fun _ _ _ _ _ _ v => vv_if_eq (pc := 41) (tgt := 46) d_Q_readVariables_41 rfl (fun hn => absurd hn hc) (fun _ => v)) ?_
        refine kv_p (fun _ _ _ _ _ _ v => vv_iconst (pc := 44) (v := 1) d_Q_readVariables_44 rfl v) ?_
        obtain ⟨rfl, rfl⟩ := w
        exact kv_e (fun _ _ => vv_zret (pc := 45) d_Q_readVariables_45 rfl rfl)
def wp_Q_withPiece_0 (D : Nat) (o : cp_G → cp_O) (K' K : cp_K) (p1 : Nat) (x2 : Int32) (x3 : Int32) : Prop := ((¬ p1 = (0 : Nat) → ∃ r3 T1, KC (D + 7) m_Q_piece (fun G => [.ref (cp_b G + 21), .int x2, .int x3]) K (fun G => some (va_rf (kr G r3))) T1 ∧ ((¬ r3 = (0 : Nat) → nd T1 p1 9 ∧ (¬ T1.2.2.1 p1 5 = 0 → nd T1 (T1.2.2.1 p1 5) 9) ∧ (o = (fun G => .inl (some (va_rf (kr G p1)))) ∧ K' = (nadd T1 p1 r3))) ∧ (r3 = (0 : Nat) → (o = (fun G => .inl (some (va_rf (kr G 0)))) ∧ K' = T1)))) ∧ (p1 = (0 : Nat) → (o = (fun G => .inl (some (va_rf (kr G 0)))) ∧ K' = K)))
theorem b_Q_withPiece_0 {D : Nat} {o : cp_G → cp_O} {K' K : cp_K} {p1 : Nat} {x2 : Int32} {x3 : Int32} (w : wp_Q_withPiece_0 D o K' K p1 x2 x3) : JC (D + 8) m_Q_withPiece o K' 0 (fun G => [(0, .ref (cp_b G + 21)), (1, va_rf (kr G p1)), (2, .int x2), (3, .int x3)]) (fun _ => []) K := by
  unfold wp_Q_withPiece_0 at w
  intro G H d n0 z0 hd
  show kV G H m_Q_withPiece d n0 z0 (o G) K' 0 [(0, .ref (cp_b G + 21)), (1, va_rf (kr G p1)), (2, .int x2), (3, .int x3)] [] K
  refine kv_p (fun _ _ _ _ _ _ v => vv_aload_nr (pc := 0) d_Q_withPiece_0 (cp_isr_rf (kr G p1)) rfl v) ?_
  refine kw_ifnonnull (pc := 1) (tgt := 6) d_Q_withPiece_1 rfl (fun hc => ?_) (fun hc => ?_)
  · replace w := w.1 hc
    refine kv_p (fun _ _ _ _ _ _ v => vv_aload_n (pc := 6) d_Q_withPiece_6 rfl v) ?_
    refine kv_p (fun _ _ _ _ _ _ v => vv_iload_n (pc := 7) d_Q_withPiece_7 rfl v) ?_
    refine kv_p (fun _ _ _ _ _ _ v => vv_iload_n (pc := 8) d_Q_withPiece_8 rfl v) ?_
    obtain ⟨r3, T1, c2, w⟩ := w
    refine kw_cv (pc := 9) (As := [.int x2, .int x3]) d_Q_withPiece_9 c2 rfl k_Q_piece ml_Q_28 (Or.inl ⟨by decide, rfl⟩) (by omega) (Nat.le_of_ble_eq_true rfl) ?_
    refine kv_p (fun _ _ _ _ _ _ v => vv_astore (pc := 12) d_Q_withPiece_12 (cp_isr_rf (kr G r3)) (Nat.le_of_ble_eq_true rfl) v) ?_
    refine kv_p (fun _ _ _ _ _ _ v => vv_aloadr (pc := 14) d_Q_withPiece_14 (cp_isr_rf (kr G r3)) rfl v) ?_
    refine kw_ifnonnull (pc := 16) (tgt := 21) d_Q_withPiece_16 rfl (fun hc => ?_) (fun hc => ?_)
    · replace w := w.1 hc
      refine kv_p (fun _ _ _ _ _ _ v => vv_aload_nr (pc := 21) d_Q_withPiece_21 (cp_isr_rf (kr G p1)) rfl v) ?_
      refine kv_p (fun _ _ _ _ _ _ v => vv_aloadr (pc := 22) d_Q_withPiece_22 (cp_isr_rf (kr G r3)) rfl v) ?_
      obtain ⟨b4, w⟩ := w
      obtain ⟨b5, w⟩ := w
      refine kw_cn (pc := 24) (As := [va_rf (kr G r3)]) (As0 := (fun G => [va_rf (kr G p1), va_rf (kr G r3)])) d_Q_withPiece_24 (C_Nadd b4 b5) rfl k_N_add ml_Q_49 b4 (by omega) (Nat.le_of_ble_eq_true rfl) ?_
      refine kv_p (fun _ _ _ _ _ _ v => vv_aload_nr (pc := 27) d_Q_withPiece_27 (cp_isr_rf (kr G p1)) rfl v) ?_
      obtain ⟨rfl, rfl⟩ := w
      exact kv_e (fun _ _ => vv_aret (pc := 28) d_Q_withPiece_28 rfl (Or.inl ⟨_, rfl⟩) (cp_isr_rf _))
    · replace w := w.2 hc
      refine kw_null (pc := 19) d_Q_withPiece_19 ?_
      obtain ⟨rfl, rfl⟩ := w
      exact kv_e (fun _ _ => vv_aret (pc := 20) d_Q_withPiece_20 rfl (Or.inl ⟨_, rfl⟩) (cp_isr_rf _))
  · replace w := w.2 hc
    refine kw_null (pc := 4) d_Q_withPiece_4 ?_
    obtain ⟨rfl, rfl⟩ := w
    exact kv_e (fun _ _ => vv_aret (pc := 5) d_Q_withPiece_5 rfl (Or.inl ⟨_, rfl⟩) (cp_isr_rf _))
theorem c_Q_withPiece {D : Nat} {o : cp_G → Option Value} {K' K : cp_K} {p1 : Nat} {x2 : Int32} {x3 : Int32} (w : wp_Q_withPiece_0 D (fun G => .inl (o G)) K' K p1 x2 x3) : KC (D + 8) m_Q_withPiece (fun G => [.ref (cp_b G + 21), va_rf (kr G p1), .int x2, .int x3]) K o K' := KC.of2 rfl (fun G => by cases kr G p1 <;> exact ⟨Nat.le_of_ble_eq_true rfl, rfl⟩) (b_Q_withPiece_0 w)
