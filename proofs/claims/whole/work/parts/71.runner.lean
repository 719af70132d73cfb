/-! ===== Runner, Typer, CodeInspector (printed by cxc.py) ===== -/
def wp_I_wrongInProgram_0 (D : Nat) (o : cp_G → cp_O) (K' K : cp_K) (p1 : Nat) : Prop := nd K p1 10 ∧ nd K (K.2.2.1 p1 4) 9 ∧ JC (D + 8) m_I_wrongInProgram o K' 8 (fun G => [(0, .ref (cp_b G + 25)), (1, va_rf (kr G p1)), (2, va_rf (kr G (K.2.2.1 (K.2.2.1 p1 4) 4)))]) (fun _ => []) K
theorem b_I_wrongInProgram_0 {D : Nat} {o : cp_G → cp_O} {K' K : cp_K} {p1 : Nat} (w : wp_I_wrongInProgram_0 D o K' K p1) : JC (D + 8) m_I_wrongInProgram o K' 0 (fun G => [(0, .ref (cp_b G + 25)), (1, va_rf (kr G p1))]) (fun _ => []) K := by
  unfold wp_I_wrongInProgram_0 at w
  intro G H d n0 z0 hd
  show kV G H m_I_wrongInProgram d n0 z0 (o G) K' 0 [(0, .ref (cp_b G + 25)), (1, va_rf (kr G p1))] [] K
  refine kv_p (fun _ _ _ _ _ _ v => vv_aload_nr (pc := 0) d_I_wrongInProgram_0 (cp_isr_rf (kr G p1)) rfl v) ?_
  obtain ⟨b1, w⟩ := w
  refine kw_grN (pc := 1) d_I_wrongInProgram_1 fl_I_19 b1 rfl rfl ?_
  obtain ⟨b2, w⟩ := w
  refine kw_grN (pc := 4) d_I_wrongInProgram_4 fl_I_25 b2 rfl rfl ?_
  refine kv_p (fun _ _ _ _ _ _ v => vv_astore_n (pc := 7) d_I_wrongInProgram_7 (cp_isr_rf (kr G (K.2.2.1 (K.2.2.1 p1 4) 4))) (Nat.le_of_ble_eq_true rfl) v) ?_
  refine kw_lv (lv := [(2, va_rf (kr G (K.2.2.1 (K.2.2.1 p1 4) 4))), (0, .ref (cp_b G + 25)), (1, va_rf (kr G p1))]) (by cases kr G p1 <;> rfl) ?_
  exact kw_sub [1, 2, 0] rfl (w G H d n0 z0 hd)
theorem c_I_wrongInProgram {D : Nat} {o : cp_G → Option Value} {K' K : cp_K} {p1 : Nat} (w : wp_I_wrongInProgram_0 D (fun G => .inl (o G)) K' K p1) : KC (D + 8) m_I_wrongInProgram (fun G => [.ref (cp_b G + 25), va_rf (kr G p1)]) K o K' := KC.of2 rfl (fun G => by cases kr G p1 <;> exact ⟨Nat.le_of_ble_eq_true rfl, rfl⟩) (b_I_wrongInProgram_0 w)
def wp_I_wrongInProgram_8 (D : Nat) (o : cp_G → cp_O) (K' K : cp_K) (p1 : Nat) (p2 : Nat) : Prop := ((p2 = (0 : Nat) → nd K p1 10 ∧ nd K (K.2.2.1 p1 4) 9 ∧ ∃ r5 T3, KC (D + 7) m_I_wrongIn (fun G => [.ref (cp_b G + 25), va_rf (kr G (K.2.2.1 (K.2.2.1 p1 4) 5)), va_rf (kr G p1)]) K (fun _ => some (.int r5)) T3 ∧ (o = (fun _ => .inl (some (.int r5))) ∧ K' = T3)) ∧ (¬ p2 = (0 : Nat) → nd K p1 10 ∧ nd K (K.2.2.1 p1 4) 9 ∧ ((p2 = ((K.2.2.1 (K.2.2.1 p1 4) 5) : Nat) → ∃ r10 T8, KC (D + 7) m_I_wrongIn (fun G => [.ref (cp_b G + 25), va_rf (kr G (K.2.2.1 (K.2.2.1 p1 4) 5)), va_rf (kr G p1)]) K (fun _ => some (.int r10)) T8 ∧ (o = (fun _ => .inl (some (.int r10))) ∧ K' = T8)) ∧ (¬ p2 = ((K.2.2.1 (K.2.2.1 p1 4) 5) : Nat) → nd K p2 9 ∧ (rsz K 15 < k_lim 15 ∧ rsz K 17 < k_lim 17 ∧ rsz K 19 < k_lim 19) ∧ JC (D + 8) m_I_wrongInProgram o K' 8 (fun G => [(0, .ref (cp_b G + 25)), (1, va_rf (kr G p1)), (2, va_rf (kr G ((bpush K (K.2.1 p2 1) (-1) (-1)).2.2.1 p2 6)))]) (fun _ => []) (bpush K (K.2.1 p2 1) (-1) (-1))))))
theorem b_I_wrongInProgram_8 {D : Nat} {o : cp_G → cp_O} {K' K : cp_K} {p1 : Nat} {p2 : Nat} (w : wp_I_wrongInProgram_8 D o K' K p1 p2) : JC (D + 8) m_I_wrongInProgram o K' 8 (fun G => [(0, .ref (cp_b G + 25)), (1, va_rf (kr G p1)), (2, va_rf (kr G p2))]) (fun _ => []) K := by
  unfold wp_I_wrongInProgram_8 at w
  intro G H d n0 z0 hd
  show kV G H m_I_wrongInProgram d n0 z0 (o G) K' 8 [(0, .ref (cp_b G + 25)), (1, va_rf (kr G p1)), (2, va_rf (kr G p2))] [] K
  refine kv_p (fun _ _ _ _ _ _ v => vv_aload_nr (pc := 8) d_I_wrongInProgram_8 (cp_isr_rf (kr G p2)) rfl v) ?_
  refine kw_ifnull (pc := 9) (tgt := 36) d_I_wrongInProgram_9 rfl (fun hc => ?_) (fun hc => ?_)
  · replace w := w.1 hc
    refine kv_p (fun _ _ _ _ _ _ v => vv_aload_n (pc := 36) d_I_wrongInProgram_36 rfl v) ?_
    refine kv_p (fun _ _ _ _ _ _ v => vv_aload_nr (pc := 37) d_I_wrongInProgram_37 (cp_isr_rf (kr G p1)) rfl v) ?_
    obtain ⟨b1, w⟩ := w
    refine kw_grN (pc := 38) d_I_wrongInProgram_38 fl_I_19 b1 rfl rfl ?_
    obtain ⟨b2, w⟩ := w
    refine kw_grN (pc := 41) d_I_wrongInProgram_41 fl_I_30 b2 rfl rfl ?_
    refine kv_p (fun _ _ _ _ _ _ v => vv_aload_nr (pc := 44) d_I_wrongInProgram_44 (cp_isr_rf (kr G p1)) rfl v) ?_
    obtain ⟨r5, T3, c4, w⟩ := w
    refine kw_cv (pc := 45) (As := [va_rf (kr G (K.2.2.1 (K.2.2.1 p1 4) 5)), va_rf (kr G p1)]) d_I_wrongInProgram_45 c4 rfl k_I_wrongIn ml_I_40 (Or.inl ⟨by decide, rfl⟩) (by omega) (Nat.le_of_ble_eq_true rfl) ?_
    obtain ⟨rfl, rfl⟩ := w
    exact kv_e (fun _ _ => vv_iret (pc := 48) d_I_wrongInProgram_48 rfl)
  · replace w := w.2 hc
    refine kv_p (fun _ _ _ _ _ _ v => vv_aload_nr (pc := 12) d_I_wrongInProgram_12 (cp_isr_rf (kr G p2)) rfl v) ?_
    refine kv_p (fun _ _ _ _ _ _ v => vv_aload_nr (pc := 13) d_I_wrongInProgram_13 (cp_isr_rf (kr G p1)) rfl v) ?_
    obtain ⟨b6, w⟩ := w
    refine kw_grN (pc := 14) d_I_wrongInProgram_14 fl_I_19 b6 rfl rfl ?_
    obtain ⟨b7, w⟩ := w
    refine kw_grN (pc := 17) d_I_wrongInProgram_17 fl_I_30 b7 rfl rfl ?_
    refine kw_acmp_eq (pc := 20) (tgt := 36) d_I_wrongInProgram_20 rfl (fun hc => ?_) (fun hc => ?_)
    · replace w := w.1 hc
      refine kv_p (fun _ _ _ _ _ _ v => vv_aload_n (pc := 36) d_I_wrongInProgram_36 rfl v) ?_
      refine kv_p (fun _ _ _ _ _ _ v => vv_aload_nr (pc := 37) d_I_wrongInProgram_37 (cp_isr_rf (kr G p1)) rfl v) ?_
      refine kw_grN (pc := 38) d_I_wrongInProgram_38 fl_I_19 b6 rfl rfl ?_
      refine kw_grN (pc := 41) d_I_wrongInProgram_41 fl_I_30 b7 rfl rfl ?_
      refine kv_p (fun _ _ _ _ _ _ v => vv_aload_nr (pc := 44) d_I_wrongInProgram_44 (cp_isr_rf (kr G p1)) rfl v) ?_
      obtain ⟨r10, T8, c9, w⟩ := w
      refine kw_cv (pc := 45) (As := [va_rf (kr G (K.2.2.1 (K.2.2.1 p1 4) 5)), va_rf (kr G p1)]) d_I_wrongInProgram_45 c9 rfl k_I_wrongIn ml_I_40 (Or.inl ⟨by decide, rfl⟩) (by omega) (Nat.le_of_ble_eq_true rfl) ?_
      obtain ⟨rfl, rfl⟩ := w
      exact kv_e (fun _ _ => vv_iret (pc := 48) d_I_wrongInProgram_48 rfl)
    · replace w := w.2 hc
      refine kv_p (fun _ _ _ _ _ _ v => vv_aload_n (pc := 23) d_I_wrongInProgram_23 rfl v) ?_
      refine kv_p (fun _ _ _ _ _ _ v => vv_aload_nr (pc := 24) d_I_wrongInProgram_24 (cp_isr_rf (kr G p2)) rfl v) ?_
      obtain ⟨b11, w⟩ := w
      obtain ⟨b12, w⟩ := w
      refine kw_cv (pc := 25) (As := [va_rf (kr G p2)]) (As0 := (fun G => [.ref (cp_b G + 25), va_rf (kr G p2)])) d_I_wrongInProgram_25 (C_Iknow b11 b12) rfl k_I_know ml_I_33 (Or.inl ⟨by decide, rfl⟩) (by omega) (Nat.le_of_ble_eq_true rfl) ?_
      refine kv_p (fun _ _ _ _ _ _ v => vv_aload_nr (pc := 28) d_I_wrongInProgram_28 (cp_isr_rf (kr G p2)) rfl v) ?_
      refine kw_grN (pc := 29) d_I_wrongInProgram_29 fl_I_37 (nd_bpush b11) rfl rfl ?_
      refine kv_p (fun _ _ _ _ _ _ v => vv_astore_n (pc := 32) d_I_wrongInProgram_32 (cp_isr_rf (kr G ((bpush K (K.2.1 p2 1) (-1) (-1)).2.2.1 p2 6))) (Nat.le_of_ble_eq_true rfl) v) ?_
      refine kw_lv (lv := [(2, va_rf (kr G ((bpush K (K.2.1 p2 1) (-1) (-1)).2.2.1 p2 6))), (0, .ref (cp_b G + 25)), (1, va_rf (kr G p1))]) (by cases kr G p1 <;> rfl) ?_
      refine kv_p (fun _ _ _ _ _ _ v => vv_goto (pc := 33) (tgt := 8) d_I_wrongInProgram_33 rfl v) ?_
      exact kw_sub [1, 2, 0] rfl (w G H d n0 z0 hd)
def wp_I_wrongIn_0 (D : Nat) (o : cp_G → cp_O) (K' K : cp_K) (p1 : Nat) (p2 : Nat) : Prop := nd K p1 9 ∧ ((¬ ((K.2.1 p1 0) : Int32) = 10 → ((¬ ((K.2.1 p1 0) : Int32) = 5 → JC (D + 8) m_I_wrongIn o K' 52 (fun G => [(0, .ref (cp_b G + 25)), (1, va_rf (kr G p1)), (2, va_rf (kr G p2))]) (fun _ => []) K) ∧ (((K.2.1 p1 0) : Int32) = 5 → ∃ r4 T2, KC (D + 7) m_B_indexOf (fun G => [.ref (cp_b G + 14), .int (K.2.1 p1 1), .int 0, .int (nI (rsz K 15))]) K (fun _ => some (.int r4)) T2 ∧ ((¬ (r4 : Int32) = (-1) → JC (D + 8) m_I_wrongIn o K' 52 (fun G => [(0, .ref (cp_b G + 25)), (1, va_rf (kr G p1)), (2, va_rf (kr G p2))]) (fun _ => []) T2) ∧ ((r4 : Int32) = (-1) → nd T2 p1 9 ∧ (o = (fun _ => .inl (some (.int (T2.2.1 p1 2)))) ∧ K' = T2)))))) ∧ (((K.2.1 p1 0) : Int32) = 10 → ∃ r8 T6, KC (D + 7) m_I_wrongInCase (fun G => [.ref (cp_b G + 25), va_rf (kr G p1), va_rf (kr G p2)]) K (fun _ => some (.int r8)) T6 ∧ (o = (fun _ => .inl (some (.int r8))) ∧ K' = T6)))
theorem b_I_wrongIn_0 {D : Nat} {o : cp_G → cp_O} {K' K : cp_K} {p1 : Nat} {p2 : Nat} (w : wp_I_wrongIn_0 D o K' K p1 p2) : JC (D + 8) m_I_wrongIn o K' 0 (fun G => [(0, .ref (cp_b G + 25)), (1, va_rf (kr G p1)), (2, va_rf (kr G p2))]) (fun _ => []) K := by
  unfold wp_I_wrongIn_0 at w
  intro G H d n0 z0 hd
  show kV G H m_I_wrongIn d n0 z0 (o G) K' 0 [(0, .ref (cp_b G + 25)), (1, va_rf (kr G p1)), (2, va_rf (kr G p2))] [] K
  refine kv_p (fun _ _ _ _ _ _ v => vv_aload_nr (pc := 0) d_I_wrongIn_0 (cp_isr_rf (kr G p1)) rfl v) ?_
  obtain ⟨b1, w⟩ := w
  refine kw_giN (pc := 1) d_I_wrongIn_1 fl_I_54 b1 rfl rfl ?_
  refine kv_p (fun _ _ _ _ _ _ v => vv_bipush (pc := 4) (v := 10) d_I_wrongIn_4 rfl v) ?_
  by_cases hc : ((K.2.1 p1 0) : Int32) = 10
  · replace w := w.2 hc
    refine kv_p (fun _ _ _ _ _ _ v => vv_icmp_ne (pc := 6) (tgt := 16) d_I_wrongIn_6 rfl (fun hn => absurd hc hn) (fun _ => v)) ?_
    refine kv_p (fun _ _ _ _ _ _ v => vv_aload_n (pc := 9) d_I_wrongIn_9 rfl v) ?_
    refine kv_p (fun _ _ _ _ _ _ v => vv_aload_nr (pc := 10) d_I_wrongIn_10 (cp_isr_rf (kr G p1)) rfl v) ?_
    refine kv_p (fun _ _ _ _ _ _ v => vv_aload_nr (pc := 11) d_I_wrongIn_11 (cp_isr_rf (kr G p2)) rfl v) ?_
    obtain ⟨r8, T6, c7, w⟩ := w
    refine kw_cv (pc := 12) (As := [va_rf (kr G p1), va_rf (kr G p2)]) d_I_wrongIn_12 c7 rfl k_I_wrongInCase ml_I_57 (Or.inl ⟨by decide, rfl⟩) (by omega) (Nat.le_of_ble_eq_true rfl) ?_
    obtain ⟨rfl, rfl⟩ := w
    exact kv_e (fun _ _ => vv_iret (pc := 15) d_I_wrongIn_15 rfl)
  · replace w := w.1 hc
    refine kv_p (fun _ _ _ _ _ _ v => vv_icmp_ne (pc := 6) (tgt := 16) d_I_wrongIn_6 rfl (fun _ => v) (fun hn => absurd hn hc)) ?_
    refine kv_p (fun _ _ _ _ _ _ v => vv_aload_nr (pc := 16) d_I_wrongIn_16 (cp_isr_rf (kr G p1)) rfl v) ?_
    refine kw_giN (pc := 17) d_I_wrongIn_17 fl_I_54 b1 rfl rfl ?_
    refine kv_p (fun _ _ _ _ _ _ v => vv_iconst (pc := 20) (v := 5) d_I_wrongIn_20 rfl v) ?_
    by_cases hc : ((K.2.1 p1 0) : Int32) = 5
    · replace w := w.2 hc
      refine kv_p (fun _ _ _ _ _ _ v => vv_icmp_ne (pc := 21) (tgt := 52) d_I_wrongIn_21 rfl (fun hn => absurd hc hn) (fun _ => v)) ?_
      refine kv_p (fun _ _ _ _ _ _ v => vv_aload_n (pc := 24) d_I_wrongIn_24 rfl v) ?_
      refine kw_gf (pc := 25) 14 d_I_wrongIn_25 fl_I_15 (Or.inl ⟨by decide, rfl⟩) rfl (by decide) ?_
      refine kv_p (fun _ _ _ _ _ _ v => vv_aload_nr (pc := 28) d_I_wrongIn_28 (cp_isr_rf (kr G p1)) rfl v) ?_
      refine kw_giN (pc := 29) d_I_wrongIn_29 fl_I_44 b1 rfl rfl ?_
      refine kv_p (fun _ _ _ _ _ _ v => vv_iconst (pc := 32) (v := 0) d_I_wrongIn_32 rfl v) ?_
      refine kv_p (fun _ _ _ _ _ _ v => vv_aload_n (pc := 33) d_I_wrongIn_33 rfl v) ?_
      refine kw_gf (pc := 34) 14 d_I_wrongIn_34 fl_I_15 (Or.inl ⟨by decide, rfl⟩) rfl (by decide) ?_
      refine kw_cv (pc := 37) (As := []) (As0 := (fun G => [.ref (cp_b G + 14)])) d_I_wrongIn_37 (C_Bsize) rfl k_B_size ml_I_60 (Or.inl ⟨by decide, rfl⟩) (by omega) (Nat.le_of_ble_eq_true rfl) ?_
      obtain ⟨r4, T2, c3, w⟩ := w
      refine kw_cv (pc := 40) (As := [.int (K.2.1 p1 1), .int 0, .int (nI (rsz K 15))]) d_I_wrongIn_40 c3 rfl k_B_indexOf ml_I_64 (Or.inl ⟨by decide, rfl⟩) (by omega) (Nat.le_of_ble_eq_true rfl) ?_
      refine kv_p (fun _ _ _ _ _ _ v => vv_iconst (pc := 43) (v := (-1)) d_I_wrongIn_43 rfl v) ?_
      by_cases hc : (r4 : Int32) = (-1)
      · replace w := w.2 hc
        refine kv_p (fun _ _ _ _ _ _ v => vv_icmp_ne (pc := 44) (tgt := 52) d_I_wrongIn_44 rfl (fun hn => absurd hc hn) (fun _ => v)) ?_
        refine kv_p (fun _ _ _ _ _ _ v => vv_aload_nr (pc := 47) d_I_wrongIn_47 (cp_isr_rf (kr G p1)) rfl v) ?_
        obtain ⟨b5, w⟩ := w
        refine kw_giN (pc := 48) d_I_wrongIn_48 fl_I_68 b5 rfl rfl ?_
        obtain ⟨rfl, rfl⟩ := w
        exact kv_e (fun _ _ => vv_iret (pc := 51) d_I_wrongIn_51 rfl)
      · replace w := w.1 hc
        refine kv_p (fun _ _ _ _ _ _ v => vv_icmp_ne (pc := 44) (tgt := 52) d_I_wrongIn_44 rfl (fun _ => v) (fun hn => absurd hn hc)) ?_
        exact kw_sub [0, 1, 2] rfl (w G H d n0 z0 hd)
    · replace w := w.1 hc
      refine kv_p (fun _ _ _ _ _ _ v => vv_icmp_ne (pc := 21) (tgt := 52) d_I_wrongIn_21 rfl (fun _ => v) (fun hn => absurd hn hc)) ?_
      exact kw_sub [0, 1, 2] rfl (w G H d n0 z0 hd)
theorem c_I_wrongIn {D : Nat} {o : cp_G → Option Value} {K' K : cp_K} {p1 : Nat} {p2 : Nat} (w : wp_I_wrongIn_0 D (fun G => .inl (o G)) K' K p1 p2) : KC (D + 8) m_I_wrongIn (fun G => [.ref (cp_b G + 25), va_rf (kr G p1), va_rf (kr G p2)]) K o K' := KC.of2 rfl (fun G => by cases kr G p1 <;> cases kr G p2 <;> exact ⟨Nat.le_of_ble_eq_true rfl, rfl⟩) (b_I_wrongIn_0 w)
def wp_I_wrongIn_52 (D : Nat) (o : cp_G → cp_O) (K' K : cp_K) (p1 : Nat) (p2 : Nat) : Prop := nd K p1 9 ∧ ((¬ ((K.2.1 p1 0) : Int32) = 6 → JC (D + 8) m_I_wrongIn o K' 75 (fun G => [(0, .ref (cp_b G + 25)), (1, va_rf (kr G p1)), (2, va_rf (kr G p2))]) (fun _ => []) K) ∧ (((K.2.1 p1 0) : Int32) = 6 → ∃ r4 T2, KC (D + 7) m_I_mayBeUsed (fun G => [.ref (cp_b G + 25), va_rf (kr G p1), va_rf (kr G p2)]) K (fun _ => some (.int r4)) T2 ∧ ((¬ (r4 : Int32) = 0 → JC (D + 8) m_I_wrongIn o K' 75 (fun G => [(0, .ref (cp_b G + 25)), (1, va_rf (kr G p1)), (2, va_rf (kr G p2))]) (fun _ => []) T2) ∧ ((r4 : Int32) = 0 → nd T2 p1 9 ∧ (o = (fun _ => .inl (some (.int (T2.2.1 p1 2)))) ∧ K' = T2)))))
theorem b_I_wrongIn_52 {D : Nat} {o : cp_G → cp_O} {K' K : cp_K} {p1 : Nat} {p2 : Nat} (w : wp_I_wrongIn_52 D o K' K p1 p2) : JC (D + 8) m_I_wrongIn o K' 52 (fun G => [(0, .ref (cp_b G + 25)), (1, va_rf (kr G p1)), (2, va_rf (kr G p2))]) (fun _ => []) K := by
  unfold wp_I_wrongIn_52 at w
  intro G H d n0 z0 hd
  show kV G H m_I_wrongIn d n0 z0 (o G) K' 52 [(0, .ref (cp_b G + 25)), (1, va_rf (kr G p1)), (2, va_rf (kr G p2))] [] K
  refine kv_p (fun _ _ _ _ _ _ v => vv_aload_nr (pc := 52) d_I_wrongIn_52 (cp_isr_rf (kr G p1)) rfl v) ?_
  obtain ⟨b1, w⟩ := w
  refine kw_giN (pc := 53) d_I_wrongIn_53 fl_I_54 b1 rfl rfl ?_
  refine kv_p (fun _ _ _ _ _ _ v => vv_bipush (pc := 56) (v := 6) d_I_wrongIn_56 rfl v) ?_
  by_cases hc : ((K.2.1 p1 0) : Int32) = 6
  · replace w := w.2 hc
    refine kv_p (fun _ _ _ _ _ _ v => vv_icmp_ne (pc := 58) (tgt := 75) d_I_wrongIn_58 rfl (fun hn => absurd hc hn) (fun _ => v)) ?_
    refine kv_p (fun _ _ _ _ _ _ v => vv_aload_n (pc := 61) d_I_wrongIn_61 rfl v) ?_
    refine kv_p (fun _ _ _ _ _ _ v => vv_aload_nr (pc := 62) d_I_wrongIn_62 (cp_isr_rf (kr G p1)) rfl v) ?_
    refine kv_p (fun _ _ _ _ _ _ v => vv_aload_nr (pc := 63) d_I_wrongIn_63 (cp_isr_rf (kr G p2)) rfl v) ?_
    obtain ⟨r4, T2, c3, w⟩ := w
    refine kw_cv (pc := 64) (As := [va_rf (kr G p1), va_rf (kr G p2)]) d_I_wrongIn_64 c3 rfl k_I_mayBeUsed ml_I_71 (Or.inl ⟨by decide, rfl⟩) (by omega) (Nat.le_of_ble_eq_true rfl) ?_
    by_cases hc : (r4 : Int32) = 0
    · replace w := w.2 hc
      refine kv_p (fun _ _ _ _ _ _ v => vv_if_ne (pc := 67) (tgt := 75) d_I_wrongIn_67 rfl (fun hn => absurd hc hn) (fun _ => v)) ?_
      refine kv_p (fun _ _ _ _ _ _ v => vv_aload_nr (pc := 70) d_I_wrongIn_70 (cp_isr_rf (kr G p1)) rfl v) ?_
      obtain ⟨b5, w⟩ := w
      refine kw_giN (pc := 71) d_I_wrongIn_71 fl_I_68 b5 rfl rfl ?_
      obtain ⟨rfl, rfl⟩ := w
      exact kv_e (fun _ _ => vv_iret (pc := 74) d_I_wrongIn_74 rfl)
    · replace w := w.1 hc
      refine kv_p (fun _ _ _ _ _ _ v => vv_if_ne (pc := 67) (tgt := 75) d_I_wrongIn_67 rfl (fun _ => v) (fun hn => absurd hn hc)) ?_
      exact kw_sub [0, 1, 2] rfl (w G H d n0 z0 hd)
  · replace w := w.1 hc
    refine kv_p (fun _ _ _ _ _ _ v => vv_icmp_ne (pc := 58) (tgt := 75) d_I_wrongIn_58 rfl (fun _ => v) (fun hn => absurd hn hc)) ?_
    exact kw_sub [0, 1, 2] rfl (w G H d n0 z0 hd)
def wp_I_wrongIn_75 (D : Nat) (o : cp_G → cp_O) (K' K : cp_K) (p1 : Nat) (p2 : Nat) : Prop := nd K p1 9 ∧ JC (D + 8) m_I_wrongIn o K' 80 (fun G => [(0, .ref (cp_b G + 25)), (1, va_rf (kr G p1)), (2, va_rf (kr G p2)), (3, va_rf (kr G (K.2.2.1 p1 4)))]) (fun _ => []) K
theorem b_I_wrongIn_75 {D : Nat} {o : cp_G → cp_O} {K' K : cp_K} {p1 : Nat} {p2 : Nat} (w : wp_I_wrongIn_75 D o K' K p1 p2) : JC (D + 8) m_I_wrongIn o K' 75 (fun G => [(0, .ref (cp_b G + 25)), (1, va_rf (kr G p1)), (2, va_rf (kr G p2))]) (fun _ => []) K := by
  unfold wp_I_wrongIn_75 at w
  intro G H d n0 z0 hd
  show kV G H m_I_wrongIn d n0 z0 (o G) K' 75 [(0, .ref (cp_b G + 25)), (1, va_rf (kr G p1)), (2, va_rf (kr G p2))] [] K
  refine kv_p (fun _ _ _ _ _ _ v => vv_aload_nr (pc := 75) d_I_wrongIn_75 (cp_isr_rf (kr G p1)) rfl v) ?_
  obtain ⟨b1, w⟩ := w
  refine kw_grN (pc := 76) d_I_wrongIn_76 fl_I_25 b1 rfl rfl ?_
  refine kv_p (fun _ _ _ _ _ _ v => vv_astore_n (pc := 79) d_I_wrongIn_79 (cp_isr_rf (kr G (K.2.2.1 p1 4))) (Nat.le_of_ble_eq_true rfl) v) ?_
  refine kw_lv (lv := [(3, va_rf (kr G (K.2.2.1 p1 4))), (0, .ref (cp_b G + 25)), (1, va_rf (kr G p1)), (2, va_rf (kr G p2))]) (by cases kr G p2 <;> rfl) ?_
  exact kw_sub [1, 2, 3, 0] rfl (w G H d n0 z0 hd)
def wp_I_wrongIn_80 (D : Nat) (o : cp_G → cp_O) (K' K : cp_K) (p1 : Nat) (p2 : Nat) (p3 : Nat) : Prop := ((p3 = (0 : Nat) → (o = (fun _ => .inl (some (.int (-1)))) ∧ K' = K)) ∧ (¬ p3 = (0 : Nat) → ∃ r3 T1, KC (D + 7) m_I_wrongIn (fun G => [.ref (cp_b G + 25), va_rf (kr G p3), va_rf (kr G p2)]) K (fun _ => some (.int r3)) T1 ∧ (((r3 : Int32) = (-1) → nd T1 p3 9 ∧ JC (D + 8) m_I_wrongIn o K' 80 (fun G => [(0, .ref (cp_b G + 25)), (1, va_rf (kr G p1)), (2, va_rf (kr G p2)), (3, va_rf (kr G (T1.2.2.1 p3 6)))]) (fun _ => []) T1) ∧ (¬ (r3 : Int32) = (-1) → (o = (fun _ => .inl (some (.int r3))) ∧ K' = T1)))))
theorem b_I_wrongIn_80 {D : Nat} {o : cp_G → cp_O} {K' K : cp_K} {p1 : Nat} {p2 : Nat} {p3 : Nat} (w : wp_I_wrongIn_80 D o K' K p1 p2 p3) : JC (D + 8) m_I_wrongIn o K' 80 (fun G => [(0, .ref (cp_b G + 25)), (1, va_rf (kr G p1)), (2, va_rf (kr G p2)), (3, va_rf (kr G p3))]) (fun _ => []) K := by
  unfold wp_I_wrongIn_80 at w
  intro G H d n0 z0 hd
  show kV G H m_I_wrongIn d n0 z0 (o G) K' 80 [(0, .ref (cp_b G + 25)), (1, va_rf (kr G p1)), (2, va_rf (kr G p2)), (3, va_rf (kr G p3))] [] K
  refine kv_p (fun _ _ _ _ _ _ v => vv_aload_nr (pc := 80) d_I_wrongIn_80 (cp_isr_rf (kr G p3)) rfl v) ?_
  refine kw_ifnull (pc := 81) (tgt := 109) d_I_wrongIn_81 rfl (fun hc => ?_) (fun hc => ?_)
  · replace w := w.1 hc
    refine kv_p (fun _ _ _ _ _ _ v => vv_iconst (pc := 109) (v := (-1)) d_I_wrongIn_109 rfl v) ?_
    obtain ⟨rfl, rfl⟩ := w
    exact kv_e (fun _ _ => vv_iret (pc := 110) d_I_wrongIn_110 rfl)
  · replace w := w.2 hc
    refine kv_p (fun _ _ _ _ _ _ v => vv_aload_n (pc := 84) d_I_wrongIn_84 rfl v) ?_
    refine kv_p (fun _ _ _ _ _ _ v => vv_aload_nr (pc := 85) d_I_wrongIn_85 (cp_isr_rf (kr G p3)) rfl v) ?_
    refine kv_p (fun _ _ _ _ _ _ v => vv_aload_nr (pc := 86) d_I_wrongIn_86 (cp_isr_rf (kr G p2)) rfl v) ?_
    obtain ⟨r3, T1, c2, w⟩ := w
    refine kw_cv (pc := 87) (As := [va_rf (kr G p3), va_rf (kr G p2)]) d_I_wrongIn_87 c2 rfl k_I_wrongIn ml_I_40 (Or.inl ⟨by decide, rfl⟩) (by omega) (Nat.le_of_ble_eq_true rfl) ?_
    refine kv_p (fun _ _ _ _ _ _ v => vv_istore (pc := 90) d_I_wrongIn_90 (Nat.le_of_ble_eq_true rfl) v) ?_
    refine kw_lv (lv := [(4, .int r3), (0, .ref (cp_b G + 25)), (1, va_rf (kr G p1)), (2, va_rf (kr G p2)), (3, va_rf (kr G p3))]) (by cases kr G p3 <;> rfl) ?_
    refine kv_p (fun _ _ _ _ _ _ v => vv_iload (pc := 92) d_I_wrongIn_92 rfl v) ?_
    refine kv_p (fun _ _ _ _ _ _ v => vv_iconst (pc := 94) (v := (-1)) d_I_wrongIn_94 rfl v) ?_
    by_cases hc : (r3 : Int32) = (-1)
    · replace w := w.1 hc
      refine kv_p (fun _ _ _ _ _ _ v => vv_icmp_eq (pc := 95) (tgt := 101) d_I_wrongIn_95 rfl (fun _ => v) (fun hn => absurd hc hn)) ?_
      refine kv_p (fun _ _ _ _ _ _ v => vv_aload_nr (pc := 101) d_I_wrongIn_101 (cp_isr_rf (kr G p3)) rfl v) ?_
      obtain ⟨b4, w⟩ := w
      refine kw_grN (pc := 102) d_I_wrongIn_102 fl_I_37 b4 rfl rfl ?_
      refine kv_p (fun _ _ _ _ _ _ v => vv_astore_n (pc := 105) d_I_wrongIn_105 (cp_isr_rf (kr G (T1.2.2.1 p3 6))) (Nat.le_of_ble_eq_true rfl) v) ?_
      refine kw_lv (lv := [(3, va_rf (kr G (T1.2.2.1 p3 6))), (4, .int r3), (0, .ref (cp_b G + 25)), (1, va_rf (kr G p1)), (2, va_rf (kr G p2))]) (by cases kr G p2 <;> rfl) ?_
      refine kv_p (fun _ _ _ _ _ _ v => vv_goto (pc := 106) (tgt := 80) d_I_wrongIn_106 rfl v) ?_
      exact kw_sub [2, 3, 4, 0] rfl (w G H d n0 z0 hd)
    · replace w := w.2 hc
      refine kv_p (fun _ _ _ _ _ _ v => vv_icmp_eq (pc := 95) (tgt := 101) d_I_wrongIn_95 rfl (fun hn => absurd hn hc) (fun _ => v)) ?_
      refine kv_p (fun _ _ _ _ _ _ v => vv_iload (pc := 98) d_I_wrongIn_98 rfl v) ?_
      obtain ⟨rfl, rfl⟩ := w
      exact kv_e (fun _ _ => vv_iret (pc := 100) d_I_wrongIn_100 rfl)
def wp_I_mayBeUsed_0 (D : Nat) (o : cp_G → cp_O) (K' K : cp_K) (p1 : Nat) (p2 : Nat) : Prop := nd K p1 9 ∧ nd K p2 10 ∧ ((¬ ((K.2.1 p1 1) : Int32) = (K.2.1 p2 0) → (((dfind K (K.2.1 p1 1)) = (0 : Nat) → (o = (fun _ => .inl (some (.int 0))) ∧ K' = K)) ∧ (¬ (dfind K (K.2.1 p1 1)) = (0 : Nat) → nd K (dfind K (K.2.1 p1 1)) 10 ∧ ((¬ ((K.2.1 (dfind K (K.2.1 p1 1)) 2) : Int32) = (K.2.1 p1 3) → (o = (fun _ => .inl (some (.int 0))) ∧ K' = K)) ∧ (((K.2.1 (dfind K (K.2.1 p1 1)) 2) : Int32) = (K.2.1 p1 3) → (o = (fun _ => .inl (some (.int 1))) ∧ K' = K)))))) ∧ (((K.2.1 p1 1) : Int32) = (K.2.1 p2 0) → ((p2 = (0 : Nat) → (o = (fun _ => .inl (some (.int 0))) ∧ K' = K)) ∧ (¬ p2 = (0 : Nat) → ((¬ ((K.2.1 p2 2) : Int32) = (K.2.1 p1 3) → (o = (fun _ => .inl (some (.int 0))) ∧ K' = K)) ∧ (((K.2.1 p2 2) : Int32) = (K.2.1 p1 3) → (o = (fun _ => .inl (some (.int 1))) ∧ K' = K)))))))
theorem b_I_mayBeUsed_0 {D : Nat} {o : cp_G → cp_O} {K' K : cp_K} {p1 : Nat} {p2 : Nat} (w : wp_I_mayBeUsed_0 D o K' K p1 p2) : JC (D + 8) m_I_mayBeUsed o K' 0 (fun G => [(0, .ref (cp_b G + 25)), (1, va_rf (kr G p1)), (2, va_rf (kr G p2))]) (fun _ => []) K := by
  unfold wp_I_mayBeUsed_0 at w
  intro G H d n0 z0 hd
  show kV G H m_I_mayBeUsed d n0 z0 (o G) K' 0 [(0, .ref (cp_b G + 25)), (1, va_rf (kr G p1)), (2, va_rf (kr G p2))] [] K
  refine kv_p (fun _ _ _ _ _ _ v => vv_aload_nr (pc := 0) d_I_mayBeUsed_0 (cp_isr_rf (kr G p1)) rfl v) ?_
  obtain ⟨b1, w⟩ := w
  refine kw_giN (pc := 1) d_I_mayBeUsed_1 fl_I_44 b1 rfl rfl ?_
  refine kv_p (fun _ _ _ _ _ _ v => vv_aload_nr (pc := 4) d_I_mayBeUsed_4 (cp_isr_rf (kr G p2)) rfl v) ?_
  obtain ⟨b2, w⟩ := w
  refine kw_giN (pc := 5) d_I_mayBeUsed_5 fl_I_75 b2 rfl rfl ?_
  by_cases hc : ((K.2.1 p1 1) : Int32) = (K.2.1 p2 0)
  · replace w := w.2 hc
    refine kv_p (fun _ _ _ _ _ _ v => vv_icmp_ne (pc := 8) (tgt := 15) d_I_mayBeUsed_8 rfl (fun hn => absurd hc hn) (fun _ => v)) ?_
    refine kv_p (fun _ _ _ _ _ _ v => vv_aload_nr (pc := 11) d_I_mayBeUsed_11 (cp_isr_rf (kr G p2)) rfl v) ?_
    refine kv_p (fun _ _ _ _ _ _ v => vv_goto (pc := 12) (tgt := 26) d_I_mayBeUsed_12 rfl v) ?_
    refine kv_p (fun _ _ _ _ _ _ v => vv_astore_n (pc := 26) d_I_mayBeUsed_26 (cp_isr_rf (kr G p2)) (Nat.le_of_ble_eq_true rfl) v) ?_
    refine kw_lv (lv := [(3, va_rf (kr G p2)), (0, .ref (cp_b G + 25)), (1, va_rf (kr G p1)), (2, va_rf (kr G p2))]) (by cases kr G p2 <;> rfl) ?_
    refine kv_p (fun _ _ _ _ _ _ v => vv_aload_nr (pc := 27) d_I_mayBeUsed_27 (cp_isr_rf (kr G p2)) rfl v) ?_
    refine kw_ifnull (pc := 28) (tgt := 46) d_I_mayBeUsed_28 rfl (fun hc => ?_) (fun hc => ?_)
    · replace w := w.1 hc
      refine kv_p (fun _ _ _ _ _ _ v => vv_iconst (pc := 46) (v := 0) d_I_mayBeUsed_46 rfl v) ?_
      obtain ⟨rfl, rfl⟩ := w
      exact kv_e (fun _ _ => vv_zret (pc := 47) d_I_mayBeUsed_47 rfl rfl)
    · replace w := w.2 hc
      refine kv_p (fun _ _ _ _ _ _ v => vv_aload_nr (pc := 31) d_I_mayBeUsed_31 (cp_isr_rf (kr G p2)) rfl v) ?_
      refine kw_giN (pc := 32) d_I_mayBeUsed_32 fl_I_85 b2 rfl rfl ?_
      refine kv_p (fun _ _ _ _ _ _ v => vv_aload_nr (pc := 35) d_I_mayBeUsed_35 (cp_isr_rf (kr G p1)) rfl v) ?_
      refine kw_giN (pc := 36) d_I_mayBeUsed_36 fl_I_88 b1 rfl rfl ?_
      by_cases hc : ((K.2.1 p2 2) : Int32) = (K.2.1 p1 3)
      · replace w := w.2 hc
        refine kv_p (fun _ _ _ _ _ _ v => vv_icmp_ne (pc := 39) (tgt := 46) d_I_mayBeUsed_39 rfl (fun hn => absurd hc hn) (fun _ => v)) ?_
        refine kv_p (fun _ _ _ _ _ _ v => vv_iconst (pc := 42) (v := 1) d_I_mayBeUsed_42 rfl v) ?_
        refine kv_p (fun _ _ _ _ _ _ v => vv_goto (pc := 43) (tgt := 47) d_I_mayBeUsed_43 rfl v) ?_
        obtain ⟨rfl, rfl⟩ := w
        exact kv_e (fun _ _ => vv_zret (pc := 47) d_I_mayBeUsed_47 rfl rfl)
      · replace w := w.1 hc
        refine kv_p (fun _ _ _ _ _ _ v => vv_icmp_ne (pc := 39) (tgt := 46) d_I_mayBeUsed_39 rfl (fun _ => v) (fun hn => absurd hn hc)) ?_
        refine kv_p (fun _ _ _ _ _ _ v => vv_iconst (pc := 46) (v := 0) d_I_mayBeUsed_46 rfl v) ?_
        obtain ⟨rfl, rfl⟩ := w
        exact kv_e (fun _ _ => vv_zret (pc := 47) d_I_mayBeUsed_47 rfl rfl)
  · replace w := w.1 hc
    refine kv_p (fun _ _ _ _ _ _ v => vv_icmp_ne (pc := 8) (tgt := 15) d_I_mayBeUsed_8 rfl (fun _ => v) (fun hn => absurd hn hc)) ?_
    refine kv_p (fun _ _ _ _ _ _ v => vv_aload_n (pc := 15) d_I_mayBeUsed_15 rfl v) ?_
    refine kw_gf (pc := 16) 3 d_I_mayBeUsed_16 fl_I_9 (Or.inl ⟨by decide, rfl⟩) rfl (by decide) ?_
    refine kv_p (fun _ _ _ _ _ _ v => vv_aload_nr (pc := 19) d_I_mayBeUsed_19 (cp_isr_rf (kr G p1)) rfl v) ?_
    refine kw_giN (pc := 20) d_I_mayBeUsed_20 fl_I_44 b1 rfl rfl ?_
    refine kw_cv (pc := 23) (As := [.int (K.2.1 p1 1)]) (As0 := (fun G => [.ref (cp_b G + 3), .int (K.2.1 p1 1)])) d_I_mayBeUsed_23 (C_Dfind) rfl k_D_find ml_I_79 (Or.inl ⟨by decide, rfl⟩) (by omega) (Nat.le_of_ble_eq_true rfl) ?_
    refine kv_p (fun _ _ _ _ _ _ v => vv_astore_n (pc := 26) d_I_mayBeUsed_26 (cp_isr_rf (kr G (dfind K (K.2.1 p1 1)))) (Nat.le_of_ble_eq_true rfl) v) ?_
    refine kw_lv (lv := [(3, va_rf (kr G (dfind K (K.2.1 p1 1)))), (0, .ref (cp_b G + 25)), (1, va_rf (kr G p1)), (2, va_rf (kr G p2))]) (by cases kr G p2 <;> rfl) ?_
    refine kv_p (fun _ _ _ _ _ _ v => vv_aload_nr (pc := 27) d_I_mayBeUsed_27 (cp_isr_rf (kr G (dfind K (K.2.1 p1 1)))) rfl v) ?_
    refine kw_ifnull (pc := 28) (tgt := 46) d_I_mayBeUsed_28 rfl (fun hc => ?_) (fun hc => ?_)
    · replace w := w.1 hc
      refine kv_p (fun _ _ _ _ _ _ v => vv_iconst (pc := 46) (v := 0) d_I_mayBeUsed_46 rfl v) ?_
      obtain ⟨rfl, rfl⟩ := w
      exact kv_e (fun _ _ => vv_zret (pc := 47) d_I_mayBeUsed_47 rfl rfl)
    · replace w := w.2 hc
      refine kv_p (fun _ _ _ _ _ _ v => vv_aload_nr (pc := 31) d_I_mayBeUsed_31 (cp_isr_rf (kr G (dfind K (K.2.1 p1 1)))) rfl v) ?_
      obtain ⟨b3, w⟩ := w
      refine kw_giN (pc := 32) d_I_mayBeUsed_32 fl_I_85 b3 rfl rfl ?_
      refine kv_p (fun _ _ _ _ _ _ v => vv_aload_nr (pc := 35) d_I_mayBeUsed_35 (cp_isr_rf (kr G p1)) rfl v) ?_
      refine kw_giN (pc := 36) d_I_mayBeUsed_36 fl_I_88 b1 rfl rfl ?_
      by_cases hc : ((K.2.1 (dfind K (K.2.1 p1 1)) 2) : Int32) = (K.2.1 p1 3)
      · replace w := w.2 hc
        refine kv_p (fun _ _ _ _ _ _ v => vv_icmp_ne (pc := 39) (tgt := 46) d_I_mayBeUsed_39 rfl (fun hn => absurd hc hn) (fun _ => v)) ?_
        refine kv_p (fun _ _ _ _ _ _ v => vv_iconst (pc := 42) (v := 1) d_I_mayBeUsed_42 rfl v) ?_
        refine kv_p (fun _ _ _ _ _ _ v => vv_goto (pc := 43) (tgt := 47) d_I_mayBeUsed_43 rfl v) ?_
        obtain ⟨rfl, rfl⟩ := w
        exact kv_e (fun _ _ => vv_zret (pc := 47) d_I_mayBeUsed_47 rfl rfl)
      · replace w := w.1 hc
        refine kv_p (fun _ _ _ _ _ _ v => vv_icmp_ne (pc := 39) (tgt := 46) d_I_mayBeUsed_39 rfl (fun _ => v) (fun hn => absurd hn hc)) ?_
        refine kv_p (fun _ _ _ _ _ _ v => vv_iconst (pc := 46) (v := 0) d_I_mayBeUsed_46 rfl v) ?_
        obtain ⟨rfl, rfl⟩ := w
        exact kv_e (fun _ _ => vv_zret (pc := 47) d_I_mayBeUsed_47 rfl rfl)
theorem c_I_mayBeUsed {D : Nat} {o : cp_G → Option Value} {K' K : cp_K} {p1 : Nat} {p2 : Nat} (w : wp_I_mayBeUsed_0 D (fun G => .inl (o G)) K' K p1 p2) : KC (D + 8) m_I_mayBeUsed (fun G => [.ref (cp_b G + 25), va_rf (kr G p1), va_rf (kr G p2)]) K o K' := KC.of2 rfl (fun G => by cases kr G p1 <;> cases kr G p2 <;> exact ⟨Nat.le_of_ble_eq_true rfl, rfl⟩) (b_I_mayBeUsed_0 w)
def wp_I_wrongInCase_0 (D : Nat) (o : cp_G → cp_O) (K' K : cp_K) (p1 : Nat) (p2 : Nat) : Prop := nd K p1 9 ∧ nd K (K.2.2.1 p1 4) 9 ∧ ((¬ ((K.2.1 (K.2.2.1 p1 4) 0) : Int32) = 6 → JC (D + 8) m_I_wrongInCase o K' 30 (fun G => [(0, .ref (cp_b G + 25)), (1, va_rf (kr G p1)), (2, va_rf (kr G p2)), (3, va_rf (kr G (K.2.2.1 p1 4)))]) (fun _ => []) K) ∧ (((K.2.1 (K.2.2.1 p1 4) 0) : Int32) = 6 → (¬ dfind K (K.2.1 (K.2.2.1 p1 4) 1) = 0 → nd K (dfind K (K.2.1 (K.2.2.1 p1 4) 1)) 10) ∧ ((¬ (dfc K (K.2.2.1 p1 4)) = (0 : Nat) → JC (D + 8) m_I_wrongInCase o K' 30 (fun G => [(0, .ref (cp_b G + 25)), (1, va_rf (kr G p1)), (2, va_rf (kr G p2)), (3, va_rf (kr G (K.2.2.1 p1 4)))]) (fun _ => []) K) ∧ ((dfc K (K.2.2.1 p1 4)) = (0 : Nat) → (o = (fun _ => .inl (some (.int (K.2.1 (K.2.2.1 p1 4) 2)))) ∧ K' = K)))))
theorem b_I_wrongInCase_0 {D : Nat} {o : cp_G → cp_O} {K' K : cp_K} {p1 : Nat} {p2 : Nat} (w : wp_I_wrongInCase_0 D o K' K p1 p2) : JC (D + 8) m_I_wrongInCase o K' 0 (fun G => [(0, .ref (cp_b G + 25)), (1, va_rf (kr G p1)), (2, va_rf (kr G p2))]) (fun _ => []) K := by
  unfold wp_I_wrongInCase_0 at w
  intro G H d n0 z0 hd
  show kV G H m_I_wrongInCase d n0 z0 (o G) K' 0 [(0, .ref (cp_b G + 25)), (1, va_rf (kr G p1)), (2, va_rf (kr G p2))] [] K
  refine kv_p (fun _ _ _ _ _ _ v => vv_aload_nr (pc := 0) d_I_wrongInCase_0 (cp_isr_rf (kr G p1)) rfl v) ?_
  obtain ⟨b1, w⟩ := w
  refine kw_grN (pc := 1) d_I_wrongInCase_1 fl_I_25 b1 rfl rfl ?_
  refine kv_p (fun _ _ _ _ _ _ v => vv_astore_n (pc := 4) d_I_wrongInCase_4 (cp_isr_rf (kr G (K.2.2.1 p1 4))) (Nat.le_of_ble_eq_true rfl) v) ?_
  refine kw_lv (lv := [(3, va_rf (kr G (K.2.2.1 p1 4))), (0, .ref (cp_b G + 25)), (1, va_rf (kr G p1)), (2, va_rf (kr G p2))]) (by cases kr G p2 <;> rfl) ?_
  refine kv_p (fun _ _ _ _ _ _ v => vv_aload_nr (pc := 5) d_I_wrongInCase_5 (cp_isr_rf (kr G (K.2.2.1 p1 4))) rfl v) ?_
  obtain ⟨b2, w⟩ := w
  refine kw_giN (pc := 6) d_I_wrongInCase_6 fl_I_54 b2 rfl rfl ?_
  refine kv_p (fun _ _ _ _ _ _ v => vv_bipush (pc := 9) (v := 6) d_I_wrongInCase_9 rfl v) ?_
  by_cases hc : ((K.2.1 (K.2.2.1 p1 4) 0) : Int32) = 6
  · replace w := w.2 hc
    refine kv_p (fun _ _ _ _ _ _ v => vv_icmp_ne (pc := 11) (tgt := 30) d_I_wrongInCase_11 rfl (fun hn => absurd hc hn) (fun _ => v)) ?_
    refine kv_p (fun _ _ _ _ _ _ v => vv_aload_n (pc := 14) d_I_wrongInCase_14 rfl v) ?_
    refine kw_gf (pc := 15) 3 d_I_wrongInCase_15 fl_I_9 (Or.inl ⟨by decide, rfl⟩) rfl (by decide) ?_
    refine kv_p (fun _ _ _ _ _ _ v => vv_aload_nr (pc := 18) d_I_wrongInCase_18 (cp_isr_rf (kr G (K.2.2.1 p1 4))) rfl v) ?_
    obtain ⟨b3, w⟩ := w
    refine kw_cv (pc := 19) (As := [va_rf (kr G (K.2.2.1 p1 4))]) (As0 := (fun G => [.ref (cp_b G + 3), va_rf (kr G (K.2.2.1 p1 4))])) d_I_wrongInCase_19 (C_DfindConstant b2 b3) rfl k_D_findConstant ml_I_91 (Or.inl ⟨by decide, rfl⟩) (by omega) (Nat.le_of_ble_eq_true rfl) ?_
    refine kw_ifnonnull (pc := 22) (tgt := 30) d_I_wrongInCase_22 rfl (fun hc => ?_) (fun hc => ?_)
    · replace w := w.1 hc
      exact kw_sub [1, 2, 3, 0] rfl (w G H d n0 z0 hd)
    · replace w := w.2 hc
      refine kv_p (fun _ _ _ _ _ _ v => vv_aload_nr (pc := 25) d_I_wrongInCase_25 (cp_isr_rf (kr G (K.2.2.1 p1 4))) rfl v) ?_
      refine kw_giN (pc := 26) d_I_wrongInCase_26 fl_I_68 b2 rfl rfl ?_
      obtain ⟨rfl, rfl⟩ := w
      exact kv_e (fun _ _ => vv_iret (pc := 29) d_I_wrongInCase_29 rfl)
  · replace w := w.1 hc
    refine kv_p (fun _ _ _ _ _ _ v => vv_icmp_ne (pc := 11) (tgt := 30) d_I_wrongInCase_11 rfl (fun _ => v) (fun hn => absurd hn hc)) ?_
    exact kw_sub [1, 2, 3, 0] rfl (w G H d n0 z0 hd)
theorem c_I_wrongInCase {D : Nat} {o : cp_G → Option Value} {K' K : cp_K} {p1 : Nat} {p2 : Nat} (w : wp_I_wrongInCase_0 D (fun G => .inl (o G)) K' K p1 p2) : KC (D + 8) m_I_wrongInCase (fun G => [.ref (cp_b G + 25), va_rf (kr G p1), va_rf (kr G p2)]) K o K' := KC.of2 rfl (fun G => by cases kr G p1 <;> cases kr G p2 <;> exact ⟨Nat.le_of_ble_eq_true rfl, rfl⟩) (b_I_wrongInCase_0 w)
def wp_I_wrongInCase_30 (D : Nat) (o : cp_G → cp_O) (K' K : cp_K) (p1 : Nat) (p2 : Nat) (p3 : Nat) : Prop := nd K p3 9 ∧ JC (D + 8) m_I_wrongInCase o K' 45 (fun G => [(0, .ref (cp_b G + 25)), (1, va_rf (kr G p1)), (2, va_rf (kr G p2)), (3, va_rf (kr G p3)), (4, .int (nI (rsz K 15))), (5, va_rf (kr G (K.2.2.1 p3 4)))]) (fun _ => []) K
theorem b_I_wrongInCase_30 {D : Nat} {o : cp_G → cp_O} {K' K : cp_K} {p1 : Nat} {p2 : Nat} {p3 : Nat} (w : wp_I_wrongInCase_30 D o K' K p1 p2 p3) : JC (D + 8) m_I_wrongInCase o K' 30 (fun G => [(0, .ref (cp_b G + 25)), (1, va_rf (kr G p1)), (2, va_rf (kr G p2)), (3, va_rf (kr G p3))]) (fun _ => []) K := by
  unfold wp_I_wrongInCase_30 at w
  intro G H d n0 z0 hd
  show kV G H m_I_wrongInCase d n0 z0 (o G) K' 30 [(0, .ref (cp_b G + 25)), (1, va_rf (kr G p1)), (2, va_rf (kr G p2)), (3, va_rf (kr G p3))] [] K
  refine kv_p (fun _ _ _ _ _ _ v => vv_aload_n (pc := 30) d_I_wrongInCase_30 rfl v) ?_
  refine kw_gf (pc := 31) 14 d_I_wrongInCase_31 fl_I_15 (Or.inl ⟨by decide, rfl⟩) rfl (by decide) ?_
  refine kw_cv (pc := 34) (As := []) (As0 := (fun G => [.ref (cp_b G + 14)])) d_I_wrongInCase_34 (C_Bsize) rfl k_B_size ml_I_60 (Or.inl ⟨by decide, rfl⟩) (by omega) (Nat.le_of_ble_eq_true rfl) ?_
  refine kv_p (fun _ _ _ _ _ _ v => vv_istore (pc := 37) d_I_wrongInCase_37 (Nat.le_of_ble_eq_true rfl) v) ?_
  refine kw_lv (lv := [(4, .int (nI (rsz K 15))), (0, .ref (cp_b G + 25)), (1, va_rf (kr G p1)), (2, va_rf (kr G p2)), (3, va_rf (kr G p3))]) (by cases kr G p3 <;> rfl) ?_
  refine kv_p (fun _ _ _ _ _ _ v => vv_aload_nr (pc := 39) d_I_wrongInCase_39 (cp_isr_rf (kr G p3)) rfl v) ?_
  obtain ⟨b1, w⟩ := w
  refine kw_grN (pc := 40) d_I_wrongInCase_40 fl_I_25 b1 rfl rfl ?_
  refine kv_p (fun _ _ _ _ _ _ v => vv_astore (pc := 43) d_I_wrongInCase_43 (cp_isr_rf (kr G (K.2.2.1 p3 4))) (Nat.le_of_ble_eq_true rfl) v) ?_
  exact kw_sub [2, 3, 4, 5, 1, 0] rfl (w G H d n0 z0 hd)
def wp_I_wrongInCase_45 (D : Nat) (o : cp_G → cp_O) (K' K : cp_K) (p1 : Nat) (p2 : Nat) (p3 : Nat) (x4 : Int32) (p5 : Nat) : Prop := ((p5 = (0 : Nat) → nd K p1 9 ∧ ∃ r4 T2, KC (D + 7) m_I_wrongIn (fun G => [.ref (cp_b G + 25), va_rf (kr G (K.2.2.1 p1 5)), va_rf (kr G p2)]) K (fun _ => some (.int r4)) T2 ∧ (o = (fun _ => .inl (some (.int r4))) ∧ K' = (bcut T2 x4))) ∧ (¬ p5 = (0 : Nat) → nd K p5 9 ∧ (rsz K 15 < k_lim 15 ∧ rsz K 17 < k_lim 17 ∧ rsz K 19 < k_lim 19) ∧ JC (D + 8) m_I_wrongInCase o K' 45 (fun G => [(0, .ref (cp_b G + 25)), (1, va_rf (kr G p1)), (2, va_rf (kr G p2)), (3, va_rf (kr G p3)), (4, .int x4), (5, va_rf (kr G ((bpush K (K.2.1 p5 1) (-1) (-1)).2.2.1 p5 6)))]) (fun _ => []) (bpush K (K.2.1 p5 1) (-1) (-1))))
theorem b_I_wrongInCase_45 {D : Nat} {o : cp_G → cp_O} {K' K : cp_K} {p1 : Nat} {p2 : Nat} {p3 : Nat} {x4 : Int32} {p5 : Nat} (w : wp_I_wrongInCase_45 D o K' K p1 p2 p3 x4 p5) : JC (D + 8) m_I_wrongInCase o K' 45 (fun G => [(0, .ref (cp_b G + 25)), (1, va_rf (kr G p1)), (2, va_rf (kr G p2)), (3, va_rf (kr G p3)), (4, .int x4), (5, va_rf (kr G p5))]) (fun _ => []) K := by
  unfold wp_I_wrongInCase_45 at w
  intro G H d n0 z0 hd
  show kV G H m_I_wrongInCase d n0 z0 (o G) K' 45 [(0, .ref (cp_b G + 25)), (1, va_rf (kr G p1)), (2, va_rf (kr G p2)), (3, va_rf (kr G p3)), (4, .int x4), (5, va_rf (kr G p5))] [] K
  refine kv_p (fun _ _ _ _ _ _ v => vv_aloadr (pc := 45) d_I_wrongInCase_45 (cp_isr_rf (kr G p5)) rfl v) ?_
  refine kw_ifnull (pc := 47) (tgt := 66) d_I_wrongInCase_47 rfl (fun hc => ?_) (fun hc => ?_)
  · replace w := w.1 hc
    refine kv_p (fun _ _ _ _ _ _ v => vv_aload_n (pc := 66) d_I_wrongInCase_66 rfl v) ?_
    refine kv_p (fun _ _ _ _ _ _ v => vv_aload_nr (pc := 67) d_I_wrongInCase_67 (cp_isr_rf (kr G p1)) rfl v) ?_
    obtain ⟨b1, w⟩ := w
    refine kw_grN (pc := 68) d_I_wrongInCase_68 fl_I_30 b1 rfl rfl ?_
    refine kv_p (fun _ _ _ _ _ _ v => vv_aload_nr (pc := 71) d_I_wrongInCase_71 (cp_isr_rf (kr G p2)) rfl v) ?_
    obtain ⟨r4, T2, c3, w⟩ := w
    refine kw_cv (pc := 72) (As := [va_rf (kr G (K.2.2.1 p1 5)), va_rf (kr G p2)]) d_I_wrongInCase_72 c3 rfl k_I_wrongIn ml_I_40 (Or.inl ⟨by decide, rfl⟩) (by omega) (Nat.le_of_ble_eq_true rfl) ?_
    refine kv_p (fun _ _ _ _ _ _ v => vv_istore (pc := 75) d_I_wrongInCase_75 (Nat.le_of_ble_eq_true rfl) v) ?_
    refine kv_p (fun _ _ _ _ _ _ v => vv_aload_n (pc := 77) d_I_wrongInCase_77 rfl v) ?_
    refine kw_gf (pc := 78) 14 d_I_wrongInCase_78 fl_I_15 (Or.inl ⟨by decide, rfl⟩) rfl (by decide) ?_
    refine kv_p (fun _ _ _ _ _ _ v => vv_iload (pc := 81) d_I_wrongInCase_81 rfl v) ?_
    refine kw_cv (pc := 83) (As := [.int x4]) (As0 := (fun G => [.ref (cp_b G + 14), .int x4])) d_I_wrongInCase_83 (C_Bcut) rfl k_B_cut ml_I_95 (Or.inl ⟨by decide, rfl⟩) (by omega) (Nat.le_of_ble_eq_true rfl) ?_
    refine kv_p (fun _ _ _ _ _ _ v => vv_iload (pc := 86) d_I_wrongInCase_86 rfl v) ?_
    obtain ⟨rfl, rfl⟩ := w
    exact kv_e (fun _ _ => vv_iret (pc := 88) d_I_wrongInCase_88 rfl)
  · replace w := w.2 hc
    refine kv_p (fun _ _ _ _ _ _ v => vv_aload_n (pc := 50) d_I_wrongInCase_50 rfl v) ?_
    refine kv_p (fun _ _ _ _ _ _ v => vv_aloadr (pc := 51) d_I_wrongInCase_51 (cp_isr_rf (kr G p5)) rfl v) ?_
    obtain ⟨b5, w⟩ := w
    obtain ⟨b6, w⟩ := w
    refine kw_cv (pc := 53) (As := [va_rf (kr G p5)]) (As0 := (fun G => [.ref (cp_b G + 25), va_rf (kr G p5)])) d_I_wrongInCase_53 (C_Iknow b5 b6) rfl k_I_know ml_I_33 (Or.inl ⟨by decide, rfl⟩) (by omega) (Nat.le_of_ble_eq_true rfl) ?_
    refine kv_p (fun _ _ _ _ _ _ v => vv_aloadr (pc := 56) d_I_wrongInCase_56 (cp_isr_rf (kr G p5)) rfl v) ?_
    refine kw_grN (pc := 58) d_I_wrongInCase_58 fl_I_37 (nd_bpush b5) rfl rfl ?_
    refine kv_p (fun _ _ _ _ _ _ v => vv_astore (pc := 61) d_I_wrongInCase_61 (cp_isr_rf (kr G ((bpush K (K.2.1 p5 1) (-1) (-1)).2.2.1 p5 6))) (Nat.le_of_ble_eq_true rfl) v) ?_
    refine kv_p (fun _ _ _ _ _ _ v => vv_goto (pc := 63) (tgt := 45) d_I_wrongInCase_63 rfl v) ?_
    exact kw_sub [1, 2, 3, 4, 5, 0] rfl (w G H d n0 z0 hd)
def wp_U_carryOut_0 (D : Nat) (o : cp_G → cp_O) (K' K : cp_K) (x1 : Int32) (x2 : Int32) : Prop := ((¬ (dfind K x1) = (0 : Nat) → ∃ T1, KC (D + 7) m_U_nameArguments (fun G => [.ref (cp_b G + 23), va_rf (kr G (dfind K x1)), .int x2]) (kI K 23 3 0) (fun _ => none) T1 ∧ nd T1 (dfind K x1) 10 ∧ nd T1 (T1.2.2.1 (dfind K x1) 4) 9 ∧ ∃ r7 T5, KC (D + 7) m_U_work (fun G => [.ref (cp_b G + 23), va_rf (kr G (T1.2.2.1 (T1.2.2.1 (dfind K x1) 4) 5)), .int 1, .int x2]) T1 (fun _ => some (.int r7)) T5 ∧ (o = (fun _ => .inl (some (.int r7))) ∧ K' = (kI (bcut T5 x2) 23 4 (((bcut T5 x2).2.1 23 4) + ((bcut T5 x2).2.1 23 3))))) ∧ ((dfind K x1) = (0 : Nat) → (o = (fun _ => .inl (some (.int (-1)))) ∧ K' = K)))
theorem b_U_carryOut_0 {D : Nat} {o : cp_G → cp_O} {K' K : cp_K} {x1 : Int32} {x2 : Int32} (w : wp_U_carryOut_0 D o K' K x1 x2) : JC (D + 8) m_U_carryOut o K' 0 (fun G => [(0, .ref (cp_b G + 23)), (1, .int x1), (2, .int x2)]) (fun _ => []) K := by
  unfold wp_U_carryOut_0 at w
  intro G H d n0 z0 hd
  show kV G H m_U_carryOut d n0 z0 (o G) K' 0 [(0, .ref (cp_b G + 23)), (1, .int x1), (2, .int x2)] [] K
  refine kv_p (fun _ _ _ _ _ _ v => vv_aload_n (pc := 0) d_U_carryOut_0 rfl v) ?_
  refine kw_gf (pc := 1) 3 d_U_carryOut_1 fl_U_9 (Or.inl ⟨by decide, rfl⟩) rfl (by decide) ?_
  refine kv_p (fun _ _ _ _ _ _ v => vv_iload_n (pc := 4) d_U_carryOut_4 rfl v) ?_
  refine kw_cv (pc := 5) (As := [.int x1]) (As0 := (fun G => [.ref (cp_b G + 3), .int x1])) d_U_carryOut_5 (C_Dfind) rfl k_D_find ml_U_30 (Or.inl ⟨by decide, rfl⟩) (by omega) (Nat.le_of_ble_eq_true rfl) ?_
  refine kv_p (fun _ _ _ _ _ _ v => vv_astore_n (pc := 8) d_U_carryOut_8 (cp_isr_rf (kr G (dfind K x1))) (Nat.le_of_ble_eq_true rfl) v) ?_
  refine kv_p (fun _ _ _ _ _ _ v => vv_aload_nr (pc := 9) d_U_carryOut_9 (cp_isr_rf (kr G (dfind K x1))) rfl v) ?_
  refine kw_ifnonnull (pc := 10) (tgt := 15) d_U_carryOut_10 rfl (fun hc => ?_) (fun hc => ?_)
  · replace w := w.1 hc
    refine kv_p (fun _ _ _ _ _ _ v => vv_aload_n (pc := 15) d_U_carryOut_15 rfl v) ?_
    refine kv_p (fun _ _ _ _ _ _ v => vv_iconst (pc := 16) (v := 0) d_U_carryOut_16 rfl v) ?_
    refine kw_pi (pc := 17) d_U_carryOut_17 fl_U_23 (Or.inl ⟨by decide, rfl⟩) rfl rfl rfl rfl rfl ?_
    refine kv_p (fun _ _ _ _ _ _ v => vv_aload_n (pc := 20) d_U_carryOut_20 rfl v) ?_
    refine kv_p (fun _ _ _ _ _ _ v => vv_aload_nr (pc := 21) d_U_carryOut_21 (cp_isr_rf (kr G (dfind K x1))) rfl v) ?_
    refine kv_p (fun _ _ _ _ _ _ v => vv_iload_n (pc := 22) d_U_carryOut_22 rfl v) ?_
    obtain ⟨T1, c2, w⟩ := w
    refine kw_cv (pc := 23) (As := [va_rf (kr G (dfind K x1)), .int x2]) d_U_carryOut_23 c2 rfl k_U_nameArguments ml_U_36 (Or.inl ⟨by decide, rfl⟩) (by omega) (Nat.le_of_ble_eq_true rfl) ?_
    refine kv_p (fun _ _ _ _ _ _ v => vv_aload_n (pc := 26) d_U_carryOut_26 rfl v) ?_
    refine kv_p (fun _ _ _ _ _ _ v => vv_aload_nr (pc := 27) d_U_carryOut_27 (cp_isr_rf (kr G (dfind K x1))) rfl v) ?_
    obtain ⟨b3, w⟩ := w
    refine kw_grN (pc := 28) d_U_carryOut_28 fl_U_40 b3 rfl rfl ?_
    obtain ⟨b4, w⟩ := w
    refine kw_grN (pc := 31) d_U_carryOut_31 fl_U_46 b4 rfl rfl ?_
    refine kv_p (fun _ _ _ _ _ _ v => vv_iconst (pc := 34) (v := 1) d_U_carryOut_34 rfl v) ?_
    refine kv_p (fun _ _ _ _ _ _ v => vv_iload_n (pc := 35) d_U_carryOut_35 rfl v) ?_
    obtain ⟨r7, T5, c6, w⟩ := w
    refine kw_cv (pc := 36) (As := [va_rf (kr G (T1.2.2.1 (T1.2.2.1 (dfind K x1) 4) 5)), .int 1, .int x2]) d_U_carryOut_36 c6 rfl k_U_work ml_U_51 (Or.inl ⟨by decide, rfl⟩) (by omega) (Nat.le_of_ble_eq_true rfl) ?_
    refine kv_p (fun _ _ _ _ _ _ v => vv_istore (pc := 39) d_U_carryOut_39 (Nat.le_of_ble_eq_true rfl) v) ?_
    refine kw_lv (lv := [(4, .int r7), (3, va_rf (kr G (dfind K x1))), (0, .ref (cp_b G + 23)), (1, .int x1), (2, .int x2)]) (by cases kr G (dfind K x1) <;> rfl) ?_
    refine kv_p (fun _ _ _ _ _ _ v => vv_aload_n (pc := 41) d_U_carryOut_41 rfl v) ?_
    refine kw_gf (pc := 42) 14 d_U_carryOut_42 fl_U_19 (Or.inl ⟨by decide, rfl⟩) rfl (by decide) ?_
    refine kv_p (fun _ _ _ _ _ _ v => vv_iload_n (pc := 45) d_U_carryOut_45 rfl v) ?_
    refine kw_cv (pc := 46) (As := [.int x2]) (As0 := (fun G => [.ref (cp_b G + 14), .int x2])) d_U_carryOut_46 (C_Bcut) rfl k_B_cut ml_U_55 (Or.inl ⟨by decide, rfl⟩) (by omega) (Nat.le_of_ble_eq_true rfl) ?_
    refine kv_p (fun _ _ _ _ _ _ v => vv_aload_n (pc := 49) d_U_carryOut_49 rfl v) ?_
    refine kv_p (fun _ _ _ _ _ _ v => vv_dup (pc := 50) d_U_carryOut_50 rfl v) ?_
    refine kw_gi (pc := 51) d_U_carryOut_51 fl_U_27 (Or.inl ⟨by decide, rfl⟩) rfl rfl ?_
    refine kv_p (fun _ _ _ _ _ _ v => vv_aload_n (pc := 54) d_U_carryOut_54 rfl v) ?_
    refine kw_gi (pc := 55) d_U_carryOut_55 fl_U_23 (Or.inl ⟨by decide, rfl⟩) rfl rfl ?_
    refine kv_p (fun _ _ _ _ _ _ v => vv_iadd (pc := 58) d_U_carryOut_58 v) ?_
    refine kw_pi (pc := 59) d_U_carryOut_59 fl_U_27 (Or.inl ⟨by decide, rfl⟩) rfl rfl rfl rfl rfl ?_
    refine kv_p (fun _ _ _ _ _ _ v => vv_iload (pc := 62) d_U_carryOut_62 rfl v) ?_
    obtain ⟨rfl, rfl⟩ := w
    exact kv_e (fun _ _ => vv_iret (pc := 64) d_U_carryOut_64 rfl)
  · replace w := w.2 hc
    refine kv_p (fun _ _ _ _ _ _ v => vv_iconst (pc := 13) (v := (-1)) d_U_carryOut_13 rfl v) ?_
    obtain ⟨rfl, rfl⟩ := w
    exact kv_e (fun _ _ => vv_iret (pc := 14) d_U_carryOut_14 rfl)
theorem c_U_carryOut {D : Nat} {o : cp_G → Option Value} {K' K : cp_K} {x1 : Int32} {x2 : Int32} (w : wp_U_carryOut_0 D (fun G => .inl (o G)) K' K x1 x2) : KC (D + 8) m_U_carryOut (fun G => [.ref (cp_b G + 23), .int x1, .int x2]) K o K' := KC.of2 rfl (fun G => by exact ⟨Nat.le_of_ble_eq_true rfl, rfl⟩) (b_U_carryOut_0 w)
def wp_U_nameArguments_0 (D : Nat) (o : cp_G → cp_O) (K' K : cp_K) (p1 : Nat) (x2 : Int32) : Prop := nd K p1 10 ∧ nd K (K.2.2.1 p1 4) 9 ∧ JC (D + 8) m_U_nameArguments o K' 11 (fun G => [(0, .ref (cp_b G + 23)), (1, va_rf (kr G p1)), (2, .int x2), (3, .int x2), (4, va_rf (kr G (K.2.2.1 (K.2.2.1 p1 4) 4)))]) (fun _ => []) K
theorem b_U_nameArguments_0 {D : Nat} {o : cp_G → cp_O} {K' K : cp_K} {p1 : Nat} {x2 : Int32} (w : wp_U_nameArguments_0 D o K' K p1 x2) : JC (D + 8) m_U_nameArguments o K' 0 (fun G => [(0, .ref (cp_b G + 23)), (1, va_rf (kr G p1)), (2, .int x2)]) (fun _ => []) K := by
  unfold wp_U_nameArguments_0 at w
  intro G H d n0 z0 hd
  show kV G H m_U_nameArguments d n0 z0 (o G) K' 0 [(0, .ref (cp_b G + 23)), (1, va_rf (kr G p1)), (2, .int x2)] [] K
  refine kv_p (fun _ _ _ _ _ _ v => vv_iload_n (pc := 0) d_U_nameArguments_0 rfl v) ?_
  refine kv_p (fun _ _ _ _ _ _ v => vv_istore_n (pc := 1) d_U_nameArguments_1 (Nat.le_of_ble_eq_true rfl) v) ?_
  refine kv_p (fun _ _ _ _ _ _ v => vv_aload_nr (pc := 2) d_U_nameArguments_2 (cp_isr_rf (kr G p1)) rfl v) ?_
  obtain ⟨b1, w⟩ := w
  refine kw_grN (pc := 3) d_U_nameArguments_3 fl_U_40 b1 rfl rfl ?_
  obtain ⟨b2, w⟩ := w
  refine kw_grN (pc := 6) d_U_nameArguments_6 fl_U_61 b2 rfl rfl ?_
  refine kv_p (fun _ _ _ _ _ _ v => vv_astore (pc := 9) d_U_nameArguments_9 (cp_isr_rf (kr G (K.2.2.1 (K.2.2.1 p1 4) 4))) (Nat.le_of_ble_eq_true rfl) v) ?_
  exact kw_sub [2, 3, 4, 1, 0] rfl (w G H d n0 z0 hd)
theorem c_U_nameArguments {D : Nat} {o : cp_G → Option Value} {K' K : cp_K} {p1 : Nat} {x2 : Int32} (w : wp_U_nameArguments_0 D (fun G => .inl (o G)) K' K p1 x2) : KC (D + 8) m_U_nameArguments (fun G => [.ref (cp_b G + 23), va_rf (kr G p1), .int x2]) K o K' := KC.of2 rfl (fun G => by cases kr G p1 <;> exact ⟨Nat.le_of_ble_eq_true rfl, rfl⟩) (b_U_nameArguments_0 w)
def wp_U_nameArguments_11 (D : Nat) (o : cp_G → cp_O) (K' K : cp_K) (p1 : Nat) (x2 : Int32) (x3 : Int32) (p4 : Nat) : Prop := ((p4 = (0 : Nat) → (o = (fun _ => .inl none) ∧ K' = K)) ∧ (¬ p4 = (0 : Nat) → nd K p1 10 ∧ nd K (K.2.2.1 p1 4) 9 ∧ ((p4 = ((K.2.2.1 (K.2.2.1 p1 4) 5) : Nat) → (o = (fun _ => .inl none) ∧ K' = K)) ∧ (¬ p4 = ((K.2.2.1 (K.2.2.1 p1 4) 5) : Nat) → nd K p4 9 ∧ JC (D + 8) m_U_nameArguments o K' 11 (fun G => [(0, .ref (cp_b G + 23)), (1, va_rf (kr G p1)), (2, .int x2), (3, .int (x3 + 1)), (4, va_rf (kr G ((kset K 15 x3 (K.2.1 p4 1)).2.2.1 p4 6)))]) (fun _ => []) (kset K 15 x3 (K.2.1 p4 1))))))
theorem b_U_nameArguments_11 {D : Nat} {o : cp_G → cp_O} {K' K : cp_K} {p1 : Nat} {x2 : Int32} {x3 : Int32} {p4 : Nat} (w : wp_U_nameArguments_11 D o K' K p1 x2 x3 p4) : JC (D + 8) m_U_nameArguments o K' 11 (fun G => [(0, .ref (cp_b G + 23)), (1, va_rf (kr G p1)), (2, .int x2), (3, .int x3), (4, va_rf (kr G p4))]) (fun _ => []) K := by
  unfold wp_U_nameArguments_11 at w
  intro G H d n0 z0 hd
  show kV G H m_U_nameArguments d n0 z0 (o G) K' 11 [(0, .ref (cp_b G + 23)), (1, va_rf (kr G p1)), (2, .int x2), (3, .int x3), (4, va_rf (kr G p4))] [] K
  refine kv_p (fun _ _ _ _ _ _ v => vv_aloadr (pc := 11) d_U_nameArguments_11 (cp_isr_rf (kr G p4)) rfl v) ?_
  refine kw_ifnull (pc := 13) (tgt := 54) d_U_nameArguments_13 rfl (fun hc => ?_) (fun hc => ?_)
  · replace w := w.1 hc
    obtain ⟨rfl, rfl⟩ := w
    exact kv_e (fun _ _ => vv_vret (pc := 54) d_U_nameArguments_54 rfl)
  · replace w := w.2 hc
    refine kv_p (fun _ _ _ _ _ _ v => vv_aloadr (pc := 16) d_U_nameArguments_16 (cp_isr_rf (kr G p4)) rfl v) ?_
    refine kv_p (fun _ _ _ _ _ _ v => vv_aload_nr (pc := 18) d_U_nameArguments_18 (cp_isr_rf (kr G p1)) rfl v) ?_
    obtain ⟨b1, w⟩ := w
    refine kw_grN (pc := 19) d_U_nameArguments_19 fl_U_40 b1 rfl rfl ?_
    obtain ⟨b2, w⟩ := w
    refine kw_grN (pc := 22) d_U_nameArguments_22 fl_U_46 b2 rfl rfl ?_
    refine kw_acmp_eq (pc := 25) (tgt := 54) d_U_nameArguments_25 rfl (fun hc => ?_) (fun hc => ?_)
    · replace w := w.1 hc
      obtain ⟨rfl, rfl⟩ := w
      exact kv_e (fun _ _ => vv_vret (pc := 54) d_U_nameArguments_54 rfl)
    · replace w := w.2 hc
      refine kv_p (fun _ _ _ _ _ _ v => vv_aload_n (pc := 28) d_U_nameArguments_28 rfl v) ?_
      refine kw_gf (pc := 29) 14 d_U_nameArguments_29 fl_U_19 (Or.inl ⟨by decide, rfl⟩) rfl (by decide) ?_
      refine kv_p (fun _ _ _ _ _ _ v => vv_iload_n (pc := 32) d_U_nameArguments_32 rfl v) ?_
      refine kv_p (fun _ _ _ _ _ _ v => vv_aloadr (pc := 33) d_U_nameArguments_33 (cp_isr_rf (kr G p4)) rfl v) ?_
      obtain ⟨b3, w⟩ := w
      refine kw_giN (pc := 35) d_U_nameArguments_35 fl_U_64 b3 rfl rfl ?_
      refine kw_cv (pc := 38) (As := [.int x3, .int (K.2.1 p4 1)]) (As0 := (fun G => [.ref (cp_b G + 14), .int x3, .int (K.2.1 p4 1)])) d_U_nameArguments_38 (C_Brename) rfl k_B_rename ml_U_67 (Or.inl ⟨by decide, rfl⟩) (by omega) (Nat.le_of_ble_eq_true rfl) ?_
      refine kv_p (fun _ _ _ _ _ _ v => vv_iinc (pc := 41) (v := (x3 + 1)) d_U_nameArguments_41 rfl rfl (Nat.le_of_ble_eq_true rfl) v) ?_
      refine kv_p (fun _ _ _ _ _ _ v => vv_aloadr (pc := 44) d_U_nameArguments_44 (cp_isr_rf (kr G p4)) rfl v) ?_
      refine kw_grN (pc := 46) d_U_nameArguments_46 fl_U_71 (nd_set b3) rfl rfl ?_
      refine kv_p (fun _ _ _ _ _ _ v => vv_astore (pc := 49) d_U_nameArguments_49 (cp_isr_rf (kr G ((kset K 15 x3 (K.2.1 p4 1)).2.2.1 p4 6))) (Nat.le_of_ble_eq_true rfl) v) ?_
      refine kv_p (fun _ _ _ _ _ _ v => vv_goto (pc := 51) (tgt := 11) d_U_nameArguments_51 rfl v) ?_
      exact kw_sub [2, 3, 4, 1, 0] rfl (w G H d n0 z0 hd)
def wp_U_work_0 (D : Nat) (o : cp_G → cp_O) (K' K : cp_K) (p1 : Nat) (x2 : Int32) (x3 : Int32) : Prop := ((p1 = (0 : Nat) → (o = (fun _ => .inl (some (.int (-1)))) ∧ K' = K)) ∧ (¬ p1 = (0 : Nat) → ((100 ≤ ((K.2.1 23 3) : Int32) → (o = (fun _ => .inl (some (.int (-1)))) ∧ K' = K)) ∧ (¬ 100 ≤ ((K.2.1 23 3) : Int32) → (((x2 : Int32) ≤ 30 → nd K p1 9 ∧ ((((kI K 23 3 ((K.2.1 23 3) + 1)).2.1 p1 0) = (1 : Int32) → rsz (kI K 23 3 ((K.2.1 23 3) + 1)) 7 + 2 < k_lim 7 ∧ (o = (fun _ => .inl (some (.int (nI (rsz (kI K 23 3 ((K.2.1 23 3) + 1)) 7))))) ∧ K' = (mks (kI K 23 3 ((K.2.1 23 3) + 1)) 1 ((kI K 23 3 ((K.2.1 23 3) + 1)).2.1 p1 1)))) ∧ (((kI K 23 3 ((K.2.1 23 3) + 1)).2.1 p1 0) = (2 : Int32) → (o = (fun _ => .inl (some (.int (-1)))) ∧ K' = (kI K 23 3 ((K.2.1 23 3) + 1)))) ∧ (((kI K 23 3 ((K.2.1 23 3) + 1)).2.1 p1 0) = (3 : Int32) → (o = (fun _ => .inl (some (.int (-1)))) ∧ K' = (kI K 23 3 ((K.2.1 23 3) + 1)))) ∧ (((kI K 23 3 ((K.2.1 23 3) + 1)).2.1 p1 0) = (4 : Int32) → (o = (fun _ => .inl (some (.int (-1)))) ∧ K' = (kI K 23 3 ((K.2.1 23 3) + 1)))) ∧ (((kI K 23 3 ((K.2.1 23 3) + 1)).2.1 p1 0) = (5 : Int32) → ∃ r5 T3, KC (D + 7) m_B_valueOf (fun G => [.ref (cp_b G + 14), .int ((kI K 23 3 ((K.2.1 23 3) + 1)).2.1 p1 1), .int x3]) (kI K 23 3 ((K.2.1 23 3) + 1)) (fun _ => some (.int r5)) T3 ∧ (o = (fun _ => .inl (some (.int r5))) ∧ K' = T3)) ∧ (((kI K 23 3 ((K.2.1 23 3) + 1)).2.1 p1 0) = (6 : Int32) → ∃ r8 T6, KC (D + 7) m_U_apply (fun G => [.ref (cp_b G + 23), va_rf (kr G p1), .int x2, .int x3]) (kI K 23 3 ((K.2.1 23 3) + 1)) (fun _ => some (.int r8)) T6 ∧ (o = (fun _ => .inl (some (.int r8))) ∧ K' = T6)) ∧ (((kI K 23 3 ((K.2.1 23 3) + 1)).2.1 p1 0) = (7 : Int32) → ∃ r11 T9, KC (D + 7) m_U_reckon (fun G => [.ref (cp_b G + 23), va_rf (kr G p1), .int x2, .int x3]) (kI K 23 3 ((K.2.1 23 3) + 1)) (fun _ => some (.int r11)) T9 ∧ (o = (fun _ => .inl (some (.int r11))) ∧ K' = T9)) ∧ (((kI K 23 3 ((K.2.1 23 3) + 1)).2.1 p1 0) = (8 : Int32) → ∃ r14 T12, KC (D + 7) m_U_reckon (fun G => [.ref (cp_b G + 23), va_rf (kr G p1), .int x2, .int x3]) (kI K 23 3 ((K.2.1 23 3) + 1)) (fun _ => some (.int r14)) T12 ∧ (o = (fun _ => .inl (some (.int r14))) ∧ K' = T12)) ∧ (((kI K 23 3 ((K.2.1 23 3) + 1)).2.1 p1 0) = (9 : Int32) → ∃ r17 T15, KC (D + 7) m_U_match (fun G => [.ref (cp_b G + 23), va_rf (kr G p1), .int x2, .int x3]) (kI K 23 3 ((K.2.1 23 3) + 1)) (fun _ => some (.int r17)) T15 ∧ (o = (fun _ => .inl (some (.int r17))) ∧ K' = T15)) ∧ (((kI K 23 3 ((K.2.1 23 3) + 1)).2.1 p1 0) = (10 : Int32) → (o = (fun _ => .inl (some (.int (-1)))) ∧ K' = (kI K 23 3 ((K.2.1 23 3) + 1)))) ∧ (((kI K 23 3 ((K.2.1 23 3) + 1)).2.1 p1 0) = (11 : Int32) → ∃ r20 T18, KC (D + 7) m_U_choose (fun G => [.ref (cp_b G + 23), va_rf (kr G p1), .int x2, .int x3]) (kI K 23 3 ((K.2.1 23 3) + 1)) (fun _ => some (.int r20)) T18 ∧ (o = (fun _ => .inl (some (.int r20))) ∧ K' = T18)) ∧ (((kI K 23 3 ((K.2.1 23 3) + 1)).2.1 p1 0) = (12 : Int32) → ∃ r23 T21, KC (D + 7) m_U_choose (fun G => [.ref (cp_b G + 23), va_rf (kr G p1), .int x2, .int x3]) (kI K 23 3 ((K.2.1 23 3) + 1)) (fun _ => some (.int r23)) T21 ∧ (o = (fun _ => .inl (some (.int r23))) ∧ K' = T21)) ∧ ((∀ c ∈ ([1, 2, 3, 4, 5, 6, 7, 8, 9, 10, 11, 12] : List Int32), ¬ ((kI K 23 3 ((K.2.1 23 3) + 1)).2.1 p1 0) = c) → (o = (fun _ => .inl (some (.int (-1)))) ∧ K' = (kI K 23 3 ((K.2.1 23 3) + 1)))))) ∧ (¬ (x2 : Int32) ≤ 30 → (o = (fun _ => .inl (some (.int (-1)))) ∧ K' = K)))))))
theorem b_U_work_0 {D : Nat} {o : cp_G → cp_O} {K' K : cp_K} {p1 : Nat} {x2 : Int32} {x3 : Int32} (w : wp_U_work_0 D o K' K p1 x2 x3) : JC (D + 8) m_U_work o K' 0 (fun G => [(0, .ref (cp_b G + 23)), (1, va_rf (kr G p1)), (2, .int x2), (3, .int x3)]) (fun _ => []) K := by
  unfold wp_U_work_0 at w
  intro G H d n0 z0 hd
  show kV G H m_U_work d n0 z0 (o G) K' 0 [(0, .ref (cp_b G + 23)), (1, va_rf (kr G p1)), (2, .int x2), (3, .int x3)] [] K
  refine kv_p (fun _ _ _ _ _ _ v => vv_aload_nr (pc := 0) d_U_work_0 (cp_isr_rf (kr G p1)) rfl v) ?_
  refine kw_ifnull (pc := 1) (tgt := 19) d_U_work_1 rfl (fun hc => ?_) (fun hc => ?_)
  · replace w := w.1 hc
    refine kv_p (fun _ _ _ _ _ _ v => vv_iconst (pc := 19) (v := (-1)) d_U_work_19 rfl v) ?_
    obtain ⟨rfl, rfl⟩ := w
    exact kv_e (fun _ _ => vv_iret (pc := 20) d_U_work_20 rfl)
  · replace w := w.2 hc
    refine kv_p (fun _ _ _ _ _ _ v => vv_aload_n (pc := 4) d_U_work_4 rfl v) ?_
    refine kw_gi (pc := 5) d_U_work_5 fl_U_23 (Or.inl ⟨by decide, rfl⟩) rfl rfl ?_
    refine kv_p (fun _ _ _ _ _ _ v => vv_bipush (pc := 8) (v := 100) d_U_work_8 rfl v) ?_
    by_cases hc : 100 ≤ ((K.2.1 23 3) : Int32)
    · replace w := w.1 hc
      refine kv_p (fun _ _ _ _ _ _ v => vv_icmp_ge (pc := 10) (tgt := 19) d_U_work_10 rfl (fun _ => v) (fun hn => absurd hc hn)) ?_
      refine kv_p (fun _ _ _ _ _ _ v => vv_iconst (pc := 19) (v := (-1)) d_U_work_19 rfl v) ?_
      obtain ⟨rfl, rfl⟩ := w
      exact kv_e (fun _ _ => vv_iret (pc := 20) d_U_work_20 rfl)
    · replace w := w.2 hc
      refine kv_p (fun _ _ _ _ _ _ v => vv_icmp_ge (pc := 10) (tgt := 19) d_U_work_10 rfl (fun hn => absurd hn hc) (fun _ => v)) ?_
      refine kv_p (fun _ _ _ _ _ _ v => vv_iload_n (pc := 13) d_U_work_13 rfl v) ?_
      refine kv_p (fun _ _ _ _ _ _ v => vv_bipush (pc := 14) (v := 30) d_U_work_14 rfl v) ?_
      by_cases hc : (x2 : Int32) ≤ 30
      · replace w := w.1 hc
        refine kv_p (fun _ _ _ _ _ _ v => vv_icmp_le (pc := 16) (tgt := 21) d_U_work_16 rfl (fun _ => v) (fun hn => absurd hc hn)) ?_
        refine kv_p (fun _ _ _ _ _ _ v => vv_aload_n (pc := 21) d_U_work_21 rfl v) ?_
        refine kv_p (fun _ _ _ _ _ _ v => vv_dup (pc := 22) d_U_work_22 rfl v) ?_
        refine kw_gi (pc := 23) d_U_work_23 fl_U_23 (Or.inl ⟨by decide, rfl⟩) rfl rfl ?_
        refine kv_p (fun _ _ _ _ _ _ v => vv_iconst (pc := 26) (v := 1) d_U_work_26 rfl v) ?_
        refine kv_p (fun _ _ _ _ _ _ v => vv_iadd (pc := 27) d_U_work_27 v) ?_
        refine kw_pi (pc := 28) d_U_work_28 fl_U_23 (Or.inl ⟨by decide, rfl⟩) rfl rfl rfl rfl rfl ?_
        refine kv_p (fun _ _ _ _ _ _ v => vv_aload_nr (pc := 31) d_U_work_31 (cp_isr_rf (kr G p1)) rfl v) ?_
        obtain ⟨b1, w⟩ := w
        refine kw_giN (pc := 32) d_U_work_32 fl_U_74 (nd_kI b1) rfl rfl ?_
        by_cases e35_0 : ((kI K 23 3 ((K.2.1 23 3) + 1)).2.1 p1 0) = (1 : Int32)
        · replace w := w.1 e35_0
          refine kw_topi (y := 1) e35_0 ?_
          refine kv_p (fun _ _ _ _ _ _ v => vv_tableIn (pc := 35) (off := 74) (tgt := 109) d_U_work_35 (by decide +kernel) (by decide +kernel) (by decide +kernel) rfl v) ?_
          refine kv_p (fun _ _ _ _ _ _ v => vv_aload_n (pc := 109) d_U_work_109 rfl v) ?_
          refine kw_gf (pc := 110) 6 d_U_work_110 fl_U_15 (Or.inl ⟨by decide, rfl⟩) rfl (by decide) ?_
          refine kv_p (fun _ _ _ _ _ _ v => vv_iconst (pc := 113) (v := 1) d_U_work_113 rfl v) ?_
          refine kv_p (fun _ _ _ _ _ _ v => vv_aload_nr (pc := 114) d_U_work_114 (cp_isr_rf (kr G p1)) rfl v) ?_
          refine kw_giN (pc := 115) d_U_work_115 fl_U_64 (nd_kI b1) rfl rfl ?_
          obtain ⟨b2, w⟩ := w
          refine kw_cv (pc := 118) (As := [.int 1, .int ((kI K 23 3 ((K.2.1 23 3) + 1)).2.1 p1 1)]) (As0 := (fun G => [.ref (cp_b G + 6), .int 1, .int ((kI K 23 3 ((K.2.1 23 3) + 1)).2.1 p1 1)])) d_U_work_118 (C_VmakeSimple b2) rfl k_V_makeSimple ml_U_81 (Or.inl ⟨by decide, rfl⟩) (by omega) (Nat.le_of_ble_eq_true rfl) ?_
          obtain ⟨rfl, rfl⟩ := w
          exact kv_e (fun _ _ => vv_iret (pc := 121) d_U_work_121 rfl)
        by_cases e35_1 : ((kI K 23 3 ((K.2.1 23 3) + 1)).2.1 p1 0) = (2 : Int32)
        · replace w := w.2.1 e35_1
          refine kw_topi (y := 2) e35_1 ?_
          refine kv_p (fun _ _ _ _ _ _ v => vv_tableIn (pc := 35) (off := 119) (tgt := 154) d_U_work_35 (by decide +kernel) (by decide +kernel) (by decide +kernel) rfl v) ?_
          refine kv_p (fun _ _ _ _ _ _ v => vv_iconst (pc := 154) (v := (-1)) d_U_work_154 rfl v) ?_
          obtain ⟨rfl, rfl⟩ := w
          exact kv_e (fun _ _ => vv_iret (pc := 155) d_U_work_155 rfl)
        by_cases e35_2 : ((kI K 23 3 ((K.2.1 23 3) + 1)).2.1 p1 0) = (3 : Int32)
        · replace w := w.2.2.1 e35_2
          refine kw_topi (y := 3) e35_2 ?_
          refine kv_p (fun _ _ _ _ _ _ v => vv_tableIn (pc := 35) (off := 119) (tgt := 154) d_U_work_35 (by decide +kernel) (by decide +kernel) (by decide +kernel) rfl v) ?_
          refine kv_p (fun _ _ _ _ _ _ v => vv_iconst (pc := 154) (v := (-1)) d_U_work_154 rfl v) ?_
          obtain ⟨rfl, rfl⟩ := w
          exact kv_e (fun _ _ => vv_iret (pc := 155) d_U_work_155 rfl)
        by_cases e35_3 : ((kI K 23 3 ((K.2.1 23 3) + 1)).2.1 p1 0) = (4 : Int32)
        · replace w := w.2.2.2.1 e35_3
          refine kw_topi (y := 4) e35_3 ?_
          refine kv_p (fun _ _ _ _ _ _ v => vv_tableIn (pc := 35) (off := 119) (tgt := 154) d_U_work_35 (by decide +kernel) (by decide +kernel) (by decide +kernel) rfl v) ?_
          refine kv_p (fun _ _ _ _ _ _ v => vv_iconst (pc := 154) (v := (-1)) d_U_work_154 rfl v) ?_
          obtain ⟨rfl, rfl⟩ := w
          exact kv_e (fun _ _ => vv_iret (pc := 155) d_U_work_155 rfl)
        by_cases e35_4 : ((kI K 23 3 ((K.2.1 23 3) + 1)).2.1 p1 0) = (5 : Int32)
        · replace w := w.2.2.2.2.1 e35_4
          refine kw_topi (y := 5) e35_4 ?_
          refine kv_p (fun _ _ _ _ _ _ v => vv_tableIn (pc := 35) (off := 61) (tgt := 96) d_U_work_35 (by decide +kernel) (by decide +kernel) (by decide +kernel) rfl v) ?_
          refine kv_p (fun _ _ _ _ _ _ v => vv_aload_n (pc := 96) d_U_work_96 rfl v) ?_
          refine kw_gf (pc := 97) 14 d_U_work_97 fl_U_19 (Or.inl ⟨by decide, rfl⟩) rfl (by decide) ?_
          refine kv_p (fun _ _ _ _ _ _ v => vv_aload_nr (pc := 100) d_U_work_100 (cp_isr_rf (kr G p1)) rfl v) ?_
          refine kw_giN (pc := 101) d_U_work_101 fl_U_64 (nd_kI b1) rfl rfl ?_
          refine kv_p (fun _ _ _ _ _ _ v => vv_iload_n (pc := 104) d_U_work_104 rfl v) ?_
          obtain ⟨r5, T3, c4, w⟩ := w
          refine kw_cv (pc := 105) (As := [.int ((kI K 23 3 ((K.2.1 23 3) + 1)).2.1 p1 1), .int x3]) d_U_work_105 c4 rfl k_B_valueOf ml_U_77 (Or.inl ⟨by decide, rfl⟩) (by omega) (Nat.le_of_ble_eq_true rfl) ?_
          obtain ⟨rfl, rfl⟩ := w
          exact kv_e (fun _ _ => vv_iret (pc := 108) d_U_work_108 rfl)
        by_cases e35_5 : ((kI K 23 3 ((K.2.1 23 3) + 1)).2.1 p1 0) = (6 : Int32)
        · replace w := w.2.2.2.2.2.1 e35_5
          refine kw_topi (y := 6) e35_5 ?_
          refine kv_p (fun _ _ _ _ _ _ v => vv_tableIn (pc := 35) (off := 87) (tgt := 122) d_U_work_35 (by decide +kernel) (by decide +kernel) (by decide +kernel) rfl v) ?_
          refine kv_p (fun _ _ _ _ _ _ v => vv_aload_n (pc := 122) d_U_work_122 rfl v) ?_
          refine kv_p (fun _ _ _ _ _ _ v => vv_aload_nr (pc := 123) d_U_work_123 (cp_isr_rf (kr G p1)) rfl v) ?_
          refine kv_p (fun _ _ _ _ _ _ v => vv_iload_n (pc := 124) d_U_work_124 rfl v) ?_
          refine kv_p (fun _ _ _ _ _ _ v => vv_iload_n (pc := 125) d_U_work_125 rfl v) ?_
          obtain ⟨r8, T6, c7, w⟩ := w
          refine kw_cv (pc := 126) (As := [va_rf (kr G p1), .int x2, .int x3]) d_U_work_126 c7 rfl k_U_apply ml_U_86 (Or.inl ⟨by decide, rfl⟩) (by omega) (Nat.le_of_ble_eq_true rfl) ?_
          obtain ⟨rfl, rfl⟩ := w
          exact kv_e (fun _ _ => vv_iret (pc := 129) d_U_work_129 rfl)
        by_cases e35_6 : ((kI K 23 3 ((K.2.1 23 3) + 1)).2.1 p1 0) = (7 : Int32)
        · replace w := w.2.2.2.2.2.2.1 e35_6
          refine kw_topi (y := 7) e35_6 ?_
          refine kv_p (fun _ _ _ _ _ _ v => vv_tableIn (pc := 35) (off := 95) (tgt := 130) d_U_work_35 (by decide +kernel) (by decide +kernel) (by decide +kernel) rfl v) ?_
          refine kv_p (fun _ _ _ _ _ _ v => vv_aload_n (pc := 130) d_U_work_130 rfl v) ?_
          refine kv_p (fun _ _ _ _ _ _ v => vv_aload_nr (pc := 131) d_U_work_131 (cp_isr_rf (kr G p1)) rfl v) ?_
          refine kv_p (fun _ _ _ _ _ _ v => vv_iload_n (pc := 132) d_U_work_132 rfl v) ?_
          refine kv_p (fun _ _ _ _ _ _ v => vv_iload_n (pc := 133) d_U_work_133 rfl v) ?_
          obtain ⟨r11, T9, c10, w⟩ := w
          refine kw_cv (pc := 134) (As := [va_rf (kr G p1), .int x2, .int x3]) d_U_work_134 c10 rfl k_U_reckon ml_U_89 (Or.inl ⟨by decide, rfl⟩) (by omega) (Nat.le_of_ble_eq_true rfl) ?_
          obtain ⟨rfl, rfl⟩ := w
          exact kv_e (fun _ _ => vv_iret (pc := 137) d_U_work_137 rfl)
        by_cases e35_7 : ((kI K 23 3 ((K.2.1 23 3) + 1)).2.1 p1 0) = (8 : Int32)
        · replace w := w.2.2.2.2.2.2.2.1 e35_7
          refine kw_topi (y := 8) e35_7 ?_
          refine kv_p (fun _ _ _ _ _ _ v => vv_tableIn (pc := 35) (off := 95) (tgt := 130) d_U_work_35 (by decide +kernel) (by decide +kernel) (by decide +kernel) rfl v) ?_
          refine kv_p (fun _ _ _ _ _ _ v => vv_aload_n (pc := 130) d_U_work_130 rfl v) ?_
          refine kv_p (fun _ _ _ _ _ _ v => vv_aload_nr (pc := 131) d_U_work_131 (cp_isr_rf (kr G p1)) rfl v) ?_
          refine kv_p (fun _ _ _ _ _ _ v => vv_iload_n (pc := 132) d_U_work_132 rfl v) ?_
          refine kv_p (fun _ _ _ _ _ _ v => vv_iload_n (pc := 133) d_U_work_133 rfl v) ?_
          obtain ⟨r14, T12, c13, w⟩ := w
          refine kw_cv (pc := 134) (As := [va_rf (kr G p1), .int x2, .int x3]) d_U_work_134 c13 rfl k_U_reckon ml_U_89 (Or.inl ⟨by decide, rfl⟩) (by omega) (Nat.le_of_ble_eq_true rfl) ?_
          obtain ⟨rfl, rfl⟩ := w
          exact kv_e (fun _ _ => vv_iret (pc := 137) d_U_work_137 rfl)
        by_cases e35_8 : ((kI K 23 3 ((K.2.1 23 3) + 1)).2.1 p1 0) = (9 : Int32)
        · replace w := w.2.2.2.2.2.2.2.2.1 e35_8
          refine kw_topi (y := 9) e35_8 ?_
          refine kv_p (fun _ _ _ _ _ _ v => vv_tableIn (pc := 35) (off := 103) (tgt := 138) d_U_work_35 (by decide +kernel) (by decide +kernel) (by decide +kernel) rfl v) ?_
          refine kv_p (fun _ _ _ _ _ _ v => vv_aload_n (pc := 138) d_U_work_138 rfl v) ?_
          refine kv_p (fun _ _ _ _ _ _ v => vv_aload_nr (pc := 139) d_U_work_139 (cp_isr_rf (kr G p1)) rfl v) ?_
          refine kv_p (fun _ _ _ _ _ _ v => vv_iload_n (pc := 140) d_U_work_140 rfl v) ?_
          refine kv_p (fun _ _ _ _ _ _ v => vv_iload_n (pc := 141) d_U_work_141 rfl v) ?_
          obtain ⟨r17, T15, c16, w⟩ := w
          refine kw_cv (pc := 142) (As := [va_rf (kr G p1), .int x2, .int x3]) d_U_work_142 c16 rfl k_U_match ml_U_92 (Or.inl ⟨by decide, rfl⟩) (by omega) (Nat.le_of_ble_eq_true rfl) ?_
          obtain ⟨rfl, rfl⟩ := w
          exact kv_e (fun _ _ => vv_iret (pc := 145) d_U_work_145 rfl)
        by_cases e35_9 : ((kI K 23 3 ((K.2.1 23 3) + 1)).2.1 p1 0) = (10 : Int32)
        · replace w := w.2.2.2.2.2.2.2.2.2.1 e35_9
          refine kw_topi (y := 10) e35_9 ?_
          refine kv_p (fun _ _ _ _ _ _ v => vv_tableIn (pc := 35) (off := 119) (tgt := 154) d_U_work_35 (by decide +kernel) (by decide +kernel) (by decide +kernel) rfl v) ?_
          refine kv_p (fun _ _ _ _ _ _ v => vv_iconst (pc := 154) (v := (-1)) d_U_work_154 rfl v) ?_
          obtain ⟨rfl, rfl⟩ := w
          exact kv_e (fun _ _ => vv_iret (pc := 155) d_U_work_155 rfl)
        by_cases e35_10 : ((kI K 23 3 ((K.2.1 23 3) + 1)).2.1 p1 0) = (11 : Int32)
        · replace w := w.2.2.2.2.2.2.2.2.2.2.1 e35_10
          refine kw_topi (y := 11) e35_10 ?_
          refine kv_p (fun _ _ _ _ _ _ v => vv_tableIn (pc := 35) (off := 111) (tgt := 146) d_U_work_35 (by decide +kernel) (by decide +kernel) (by decide +kernel) rfl v) ?_
          refine kv_p (fun _ _ _ _ _ _ v => vv_aload_n (pc := 146) d_U_work_146 rfl v) ?_
          refine kv_p (fun _ _ _ _ _ _ v => vv_aload_nr (pc := 147) d_U_work_147 (cp_isr_rf (kr G p1)) rfl v) ?_
          refine kv_p (fun _ _ _ _ _ _ v => vv_iload_n (pc := 148) d_U_work_148 rfl v) ?_
          refine kv_p (fun _ _ _ _ _ _ v => vv_iload_n (pc := 149) d_U_work_149 rfl v) ?_
          obtain ⟨r20, T18, c19, w⟩ := w
          refine kw_cv (pc := 150) (As := [va_rf (kr G p1), .int x2, .int x3]) d_U_work_150 c19 rfl k_U_choose ml_U_95 (Or.inl ⟨by decide, rfl⟩) (by omega) (Nat.le_of_ble_eq_true rfl) ?_
          obtain ⟨rfl, rfl⟩ := w
          exact kv_e (fun _ _ => vv_iret (pc := 153) d_U_work_153 rfl)
        by_cases e35_11 : ((kI K 23 3 ((K.2.1 23 3) + 1)).2.1 p1 0) = (12 : Int32)
        · replace w := w.2.2.2.2.2.2.2.2.2.2.2.1 e35_11
          refine kw_topi (y := 12) e35_11 ?_
          refine kv_p (fun _ _ _ _ _ _ v => vv_tableIn (pc := 35) (off := 111) (tgt := 146) d_U_work_35 (by decide +kernel) (by decide +kernel) (by decide +kernel) rfl v) ?_
          refine kv_p (fun _ _ _ _ _ _ v => vv_aload_n (pc := 146) d_U_work_146 rfl v) ?_
          refine kv_p (fun _ _ _ _ _ _ v => vv_aload_nr (pc := 147) d_U_work_147 (cp_isr_rf (kr G p1)) rfl v) ?_
          refine kv_p (fun _ _ _ _ _ _ v => vv_iload_n (pc := 148) d_U_work_148 rfl v) ?_
          refine kv_p (fun _ _ _ _ _ _ v => vv_iload_n (pc := 149) d_U_work_149 rfl v) ?_
          obtain ⟨r23, T21, c22, w⟩ := w
          refine kw_cv (pc := 150) (As := [va_rf (kr G p1), .int x2, .int x3]) d_U_work_150 c22 rfl k_U_choose ml_U_95 (Or.inl ⟨by decide, rfl⟩) (by omega) (Nat.le_of_ble_eq_true rfl) ?_
          obtain ⟨rfl, rfl⟩ := w
          exact kv_e (fun _ _ => vv_iret (pc := 153) d_U_work_153 rfl)
        have hx : ∀ c ∈ ([1, 2, 3, 4, 5, 6, 7, 8, 9, 10, 11, 12] : List Int32), ¬ ((kI K 23 3 ((K.2.1 23 3) + 1)).2.1 p1 0) = c := by
          intro c hc
          simp only [List.mem_cons, List.not_mem_nil, or_false] at hc
          rcases hc with rfl | rfl | rfl | rfl | rfl | rfl | rfl | rfl | rfl | rfl | rfl | rfl
          · exact e35_0
          · exact e35_1
          · exact e35_2
          · exact e35_3
          · exact e35_4
          · exact e35_5
          · exact e35_6
          · exact e35_7
          · exact e35_8
          · exact e35_9
          · exact e35_10
          · exact e35_11
        replace w := w.2.2.2.2.2.2.2.2.2.2.2.2 hx
        refine kv_p (fun _ _ _ _ _ _ v => vv_tableOut (pc := 35) (tgt := 154) d_U_work_35 (cp_swout 1 12 ([1, 2, 3, 4, 5, 6, 7, 8, 9, 10, 11, 12] : List Int32) hx (by decide +kernel)) rfl v) ?_
        refine kv_p (fun _ _ _ _ _ _ v => vv_iconst (pc := 154) (v := (-1)) d_U_work_154 rfl v) ?_
        obtain ⟨rfl, rfl⟩ := w
        exact kv_e (fun _ _ => vv_iret (pc := 155) d_U_work_155 rfl)
      · replace w := w.2 hc
        refine kv_p (fun _ _ _ _ _ _ v => vv_icmp_le (pc := 16) (tgt := 21) d_U_work_16 rfl (fun hn => absurd hn hc) (fun _ => v)) ?_
        refine kv_p (fun _ _ _ _ _ _ v => vv_iconst (pc := 19) (v := (-1)) d_U_work_19 rfl v) ?_
        obtain ⟨rfl, rfl⟩ := w
        exact kv_e (fun _ _ => vv_iret (pc := 20) d_U_work_20 rfl)
theorem c_U_work {D : Nat} {o : cp_G → Option Value} {K' K : cp_K} {p1 : Nat} {x2 : Int32} {x3 : Int32} (w : wp_U_work_0 D (fun G => .inl (o G)) K' K p1 x2 x3) : KC (D + 8) m_U_work (fun G => [.ref (cp_b G + 23), va_rf (kr G p1), .int x2, .int x3]) K o K' := KC.of2 rfl (fun G => by cases kr G p1 <;> exact ⟨Nat.le_of_ble_eq_true rfl, rfl⟩) (b_U_work_0 w)
def wp_U_apply_0 (D : Nat) (o : cp_G → cp_O) (K' K : cp_K) (p1 : Nat) (x2 : Int32) (x3 : Int32) : Prop := nd K p1 9 ∧ JC (D + 8) m_U_apply o K' 28 (fun G => [(0, .ref (cp_b G + 23)), (1, va_rf (kr G p1)), (2, .int x2), (3, .int x3), (4, va_rf (kr G (dfind K (K.2.1 p1 1)))), (5, .int (nI (rsz K 15))), (6, va_rf (kr G (K.2.2.1 p1 4)))]) (fun _ => []) K
theorem b_U_apply_0 {D : Nat} {o : cp_G → cp_O} {K' K : cp_K} {p1 : Nat} {x2 : Int32} {x3 : Int32} (w : wp_U_apply_0 D o K' K p1 x2 x3) : JC (D + 8) m_U_apply o K' 0 (fun G => [(0, .ref (cp_b G + 23)), (1, va_rf (kr G p1)), (2, .int x2), (3, .int x3)]) (fun _ => []) K := by
  unfold wp_U_apply_0 at w
  intro G H d n0 z0 hd
  show kV G H m_U_apply d n0 z0 (o G) K' 0 [(0, .ref (cp_b G + 23)), (1, va_rf (kr G p1)), (2, .int x2), (3, .int x3)] [] K
  refine kv_p (fun _ _ _ _ _ _ v => vv_aload_n (pc := 0) d_U_apply_0 rfl v) ?_
  refine kw_gf (pc := 1) 3 d_U_apply_1 fl_U_9 (Or.inl ⟨by decide, rfl⟩) rfl (by decide) ?_
  refine kv_p (fun _ _ _ _ _ _ v => vv_aload_nr (pc := 4) d_U_apply_4 (cp_isr_rf (kr G p1)) rfl v) ?_
  obtain ⟨b1, w⟩ := w
  refine kw_giN (pc := 5) d_U_apply_5 fl_U_64 b1 rfl rfl ?_
  refine kw_cv (pc := 8) (As := [.int (K.2.1 p1 1)]) (As0 := (fun G => [.ref (cp_b G + 3), .int (K.2.1 p1 1)])) d_U_apply_8 (C_Dfind) rfl k_D_find ml_U_30 (Or.inl ⟨by decide, rfl⟩) (by omega) (Nat.le_of_ble_eq_true rfl) ?_
  refine kv_p (fun _ _ _ _ _ _ v => vv_astore (pc := 11) d_U_apply_11 (cp_isr_rf (kr G (dfind K (K.2.1 p1 1)))) (Nat.le_of_ble_eq_true rfl) v) ?_
  refine kv_p (fun _ _ _ _ _ _ v => vv_aload_n (pc := 13) d_U_apply_13 rfl v) ?_
  refine kw_gf (pc := 14) 14 d_U_apply_14 fl_U_19 (Or.inl ⟨by decide, rfl⟩) rfl (by decide) ?_
  refine kw_cv (pc := 17) (As := []) (As0 := (fun G => [.ref (cp_b G + 14)])) d_U_apply_17 (C_Bsize) rfl k_B_size ml_U_98 (Or.inl ⟨by decide, rfl⟩) (by omega) (Nat.le_of_ble_eq_true rfl) ?_
  refine kv_p (fun _ _ _ _ _ _ v => vv_istore (pc := 20) d_U_apply_20 (Nat.le_of_ble_eq_true rfl) v) ?_
  refine kw_lv (lv := [(5, .int (nI (rsz K 15))), (4, va_rf (kr G (dfind K (K.2.1 p1 1)))), (0, .ref (cp_b G + 23)), (1, va_rf (kr G p1)), (2, .int x2), (3, .int x3)]) (by cases kr G (dfind K (K.2.1 p1 1)) <;> rfl) ?_
  refine kv_p (fun _ _ _ _ _ _ v => vv_aload_nr (pc := 22) d_U_apply_22 (cp_isr_rf (kr G p1)) rfl v) ?_
  refine kw_grN (pc := 23) d_U_apply_23 fl_U_61 b1 rfl rfl ?_
  refine kv_p (fun _ _ _ _ _ _ v => vv_astore (pc := 26) d_U_apply_26 (cp_isr_rf (kr G (K.2.2.1 p1 4))) (Nat.le_of_ble_eq_true rfl) v) ?_
  exact kw_sub [3, 4, 5, 6, 2, 1, 0] rfl (w G H d n0 z0 hd)
theorem c_U_apply {D : Nat} {o : cp_G → Option Value} {K' K : cp_K} {p1 : Nat} {x2 : Int32} {x3 : Int32} (w : wp_U_apply_0 D (fun G => .inl (o G)) K' K p1 x2 x3) : KC (D + 8) m_U_apply (fun G => [.ref (cp_b G + 23), va_rf (kr G p1), .int x2, .int x3]) K o K' := KC.of2 rfl (fun G => by cases kr G p1 <;> exact ⟨Nat.le_of_ble_eq_true rfl, rfl⟩) (b_U_apply_0 w)
def wp_U_apply_28 (D : Nat) (o : cp_G → cp_O) (K' K : cp_K) (p1 : Nat) (x2 : Int32) (x3 : Int32) (p4 : Nat) (x5 : Int32) (p6 : Nat) : Prop := ((p6 = (0 : Nat) → ((p4 = (0 : Nat) → JC (D + 8) m_U_apply o K' 124 (fun G => [(0, .ref (cp_b G + 23)), (1, va_rf (kr G p1)), (2, .int x2), (3, .int x3), (4, va_rf (kr G p4)), (5, .int x5), (6, va_rf (kr G p6))]) (fun _ => []) K) ∧ (¬ p4 = (0 : Nat) → nd K p4 10 ∧ ((((K.2.1 p4 1) : Int32) = 0 → JC (D + 8) m_U_apply o K' 124 (fun G => [(0, .ref (cp_b G + 23)), (1, va_rf (kr G p1)), (2, .int x2), (3, .int x3), (4, va_rf (kr G p4)), (5, .int x5), (6, va_rf (kr G p6))]) (fun _ => []) K) ∧ (¬ ((K.2.1 p4 1) : Int32) = 0 → ∃ T2, KC (D + 7) m_U_nameArguments (fun G => [.ref (cp_b G + 23), va_rf (kr G p4), .int x5]) K (fun _ => none) T2 ∧ nd T2 p4 10 ∧ nd T2 (T2.2.2.1 p4 4) 9 ∧ ∃ r8 T6, KC (D + 7) m_U_work (fun G => [.ref (cp_b G + 23), va_rf (kr G (T2.2.2.1 (T2.2.2.1 p4 4) 5)), .int (x2 + 1), .int x5]) T2 (fun _ => some (.int r8)) T6 ∧ (o = (fun _ => .inl (some (.int r8))) ∧ K' = (bcut T6 x5))))))) ∧ (¬ p6 = (0 : Nat) → ∃ r11 T9, KC (D + 7) m_U_work (fun G => [.ref (cp_b G + 23), va_rf (kr G p6), .int (x2 + 1), .int x3]) K (fun _ => some (.int r11)) T9 ∧ ((¬ (r11 : Int32) = (-1) → (rsz T9 15 < k_lim 15 ∧ rsz T9 17 < k_lim 17 ∧ rsz T9 19 < k_lim 19) ∧ nd T9 p6 9 ∧ JC (D + 8) m_U_apply o K' 28 (fun G => [(0, .ref (cp_b G + 23)), (1, va_rf (kr G p1)), (2, .int x2), (3, .int x3), (4, va_rf (kr G p4)), (5, .int x5), (6, va_rf (kr G ((bpush T9 0 r11 (-1)).2.2.1 p6 6)))]) (fun _ => []) (bpush T9 0 r11 (-1))) ∧ ((r11 : Int32) = (-1) → (o = (fun _ => .inl (some (.int (-1)))) ∧ K' = T9)))))
theorem b_U_apply_28 {D : Nat} {o : cp_G → cp_O} {K' K : cp_K} {p1 : Nat} {x2 : Int32} {x3 : Int32} {p4 : Nat} {x5 : Int32} {p6 : Nat} (w : wp_U_apply_28 D o K' K p1 x2 x3 p4 x5 p6) : JC (D + 8) m_U_apply o K' 28 (fun G => [(0, .ref (cp_b G + 23)), (1, va_rf (kr G p1)), (2, .int x2), (3, .int x3), (4, va_rf (kr G p4)), (5, .int x5), (6, va_rf (kr G p6))]) (fun _ => []) K := by
  unfold wp_U_apply_28 at w
  intro G H d n0 z0 hd
  show kV G H m_U_apply d n0 z0 (o G) K' 28 [(0, .ref (cp_b G + 23)), (1, va_rf (kr G p1)), (2, .int x2), (3, .int x3), (4, va_rf (kr G p4)), (5, .int x5), (6, va_rf (kr G p6))] [] K
  refine kv_p (fun _ _ _ _ _ _ v => vv_aloadr (pc := 28) d_U_apply_28 (cp_isr_rf (kr G p6)) rfl v) ?_
  refine kw_ifnull (pc := 30) (tgt := 72) d_U_apply_30 rfl (fun hc => ?_) (fun hc => ?_)
  · replace w := w.1 hc
    refine kv_p (fun _ _ _ _ _ _ v => vv_aloadr (pc := 72) d_U_apply_72 (cp_isr_rf (kr G p4)) rfl v) ?_
    refine kw_ifnull (pc := 74) (tgt := 124) d_U_apply_74 rfl (fun hc => ?_) (fun hc => ?_)
    · replace w := w.1 hc
      exact kw_sub [0, 1, 2, 3, 4, 5, 6] rfl (w G H d n0 z0 hd)
    · replace w := w.2 hc
      refine kv_p (fun _ _ _ _ _ _ v => vv_aloadr (pc := 77) d_U_apply_77 (cp_isr_rf (kr G p4)) rfl v) ?_
      obtain ⟨b1, w⟩ := w
      refine kw_giN (pc := 79) d_U_apply_79 fl_U_105 b1 rfl rfl ?_
      by_cases hc : ((K.2.1 p4 1) : Int32) = 0
      · replace w := w.1 hc
        refine kv_p (fun _ _ _ _ _ _ v => vv_if_eq (pc := 82) (tgt := 124) d_U_apply_82 rfl (fun _ => v) (fun hn => absurd hc hn)) ?_
        exact kw_sub [0, 1, 2, 3, 4, 5, 6] rfl (w G H d n0 z0 hd)
      · replace w := w.2 hc
        refine kv_p (fun _ _ _ _ _ _ v => vv_if_eq (pc := 82) (tgt := 124) d_U_apply_82 rfl (fun hn => absurd hn hc) (fun _ => v)) ?_
        refine kv_p (fun _ _ _ _ _ _ v => vv_aload_n (pc := 85) d_U_apply_85 rfl v) ?_
        refine kv_p (fun _ _ _ _ _ _ v => vv_aloadr (pc := 86) d_U_apply_86 (cp_isr_rf (kr G p4)) rfl v) ?_
        refine kv_p (fun _ _ _ _ _ _ v => vv_iload (pc := 88) d_U_apply_88 rfl v) ?_
        obtain ⟨T2, c3, w⟩ := w
        refine kw_cv (pc := 90) (As := [va_rf (kr G p4), .int x5]) d_U_apply_90 c3 rfl k_U_nameArguments ml_U_36 (Or.inl ⟨by decide, rfl⟩) (by omega) (Nat.le_of_ble_eq_true rfl) ?_
        refine kv_p (fun _ _ _ _ _ _ v => vv_aload_n (pc := 93) d_U_apply_93 rfl v) ?_
        refine kv_p (fun _ _ _ _ _ _ v => vv_aloadr (pc := 94) d_U_apply_94 (cp_isr_rf (kr G p4)) rfl v) ?_
        obtain ⟨b4, w⟩ := w
        refine kw_grN (pc := 96) d_U_apply_96 fl_U_40 b4 rfl rfl ?_
        obtain ⟨b5, w⟩ := w
        refine kw_grN (pc := 99) d_U_apply_99 fl_U_46 b5 rfl rfl ?_
        refine kv_p (fun _ _ _ _ _ _ v => vv_iload_n (pc := 102) d_U_apply_102 rfl v) ?_
        refine kv_p (fun _ _ _ _ _ _ v => vv_iconst (pc := 103) (v := 1) d_U_apply_103 rfl v) ?_
        refine kv_p (fun _ _ _ _ _ _ v => vv_iadd (pc := 104) d_U_apply_104 v) ?_
        refine kv_p (fun _ _ _ _ _ _ v => vv_iload (pc := 105) d_U_apply_105 rfl v) ?_
        obtain ⟨r8, T6, c7, w⟩ := w
        refine kw_cv (pc := 107) (As := [va_rf (kr G (T2.2.2.1 (T2.2.2.1 p4 4) 5)), .int (x2 + 1), .int x5]) d_U_apply_107 c7 rfl k_U_work ml_U_51 (Or.inl ⟨by decide, rfl⟩) (by omega) (Nat.le_of_ble_eq_true rfl) ?_
        refine kv_p (fun _ _ _ _ _ _ v => vv_istore (pc := 110) d_U_apply_110 (Nat.le_of_ble_eq_true rfl) v) ?_
        refine kv_p (fun _ _ _ _ _ _ v => vv_aload_n (pc := 112) d_U_apply_112 rfl v) ?_
        refine kw_gf (pc := 113) 14 d_U_apply_113 fl_U_19 (Or.inl ⟨by decide, rfl⟩) rfl (by decide) ?_
        refine kv_p (fun _ _ _ _ _ _ v => vv_iload (pc := 116) d_U_apply_116 rfl v) ?_
        refine kw_cv (pc := 118) (As := [.int x5]) (As0 := (fun G => [.ref (cp_b G + 14), .int x5])) d_U_apply_118 (C_Bcut) rfl k_B_cut ml_U_55 (Or.inl ⟨by decide, rfl⟩) (by omega) (Nat.le_of_ble_eq_true rfl) ?_
        refine kv_p (fun _ _ _ _ _ _ v => vv_iload (pc := 121) d_U_apply_121 rfl v) ?_
        obtain ⟨rfl, rfl⟩ := w
        exact kv_e (fun _ _ => vv_iret (pc := 123) d_U_apply_123 rfl)
  · replace w := w.2 hc
    refine kv_p (fun _ _ _ _ _ _ v => vv_aload_n (pc := 33) d_U_apply_33 rfl v) ?_
    refine kv_p (fun _ _ _ _ _ _ v => vv_aloadr (pc := 34) d_U_apply_34 (cp_isr_rf (kr G p6)) rfl v) ?_
    refine kv_p (fun _ _ _ _ _ _ v => vv_iload_n (pc := 36) d_U_apply_36 rfl v) ?_
    refine kv_p (fun _ _ _ _ _ _ v => vv_iconst (pc := 37) (v := 1) d_U_apply_37 rfl v) ?_
    refine kv_p (fun _ _ _ _ _ _ v => vv_iadd (pc := 38) d_U_apply_38 v) ?_
    refine kv_p (fun _ _ _ _ _ _ v => vv_iload_n (pc := 39) d_U_apply_39 rfl v) ?_
    obtain ⟨r11, T9, c10, w⟩ := w
    refine kw_cv (pc := 40) (As := [va_rf (kr G p6), .int (x2 + 1), .int x3]) d_U_apply_40 c10 rfl k_U_work ml_U_51 (Or.inl ⟨by decide, rfl⟩) (by omega) (Nat.le_of_ble_eq_true rfl) ?_
    refine kv_p (fun _ _ _ _ _ _ v => vv_istore (pc := 43) d_U_apply_43 (Nat.le_of_ble_eq_true rfl) v) ?_
    refine kw_lv (lv := [(7, .int r11), (0, .ref (cp_b G + 23)), (1, va_rf (kr G p1)), (2, .int x2), (3, .int x3), (4, va_rf (kr G p4)), (5, .int x5), (6, va_rf (kr G p6))]) (by cases kr G p6 <;> rfl) ?_
    refine kv_p (fun _ _ _ _ _ _ v => vv_iload (pc := 45) d_U_apply_45 rfl v) ?_
    refine kv_p (fun _ _ _ _ _ _ v => vv_iconst (pc := 47) (v := (-1)) d_U_apply_47 rfl v) ?_
    by_cases hc : (r11 : Int32) = (-1)
    · replace w := w.2 hc
      refine kv_p (fun _ _ _ _ _ _ v => vv_icmp_ne (pc := 48) (tgt := 53) d_U_apply_48 rfl (fun hn => absurd hc hn) (fun _ => v)) ?_
      refine kv_p (fun _ _ _ _ _ _ v => vv_iconst (pc := 51) (v := (-1)) d_U_apply_51 rfl v) ?_
      obtain ⟨rfl, rfl⟩ := w
      exact kv_e (fun _ _ => vv_iret (pc := 52) d_U_apply_52 rfl)
    · replace w := w.1 hc
      refine kv_p (fun _ _ _ _ _ _ v => vv_icmp_ne (pc := 48) (tgt := 53) d_U_apply_48 rfl (fun _ => v) (fun hn => absurd hn hc)) ?_
      refine kv_p (fun _ _ _ _ _ _ v => vv_aload_n (pc := 53) d_U_apply_53 rfl v) ?_
      refine kw_gf (pc := 54) 14 d_U_apply_54 fl_U_19 (Or.inl ⟨by decide, rfl⟩) rfl (by decide) ?_
      refine kv_p (fun _ _ _ _ _ _ v => vv_iload (pc := 57) d_U_apply_57 rfl v) ?_
      obtain ⟨b12, w⟩ := w
      refine kw_cv (pc := 59) (As := [.int r11]) (As0 := (fun G => [.ref (cp_b G + 14), .int r11])) d_U_apply_59 (C_Bpu b12) rfl k_B_pushUnnamed ml_U_102 (Or.inl ⟨by decide, rfl⟩) (by omega) (Nat.le_of_ble_eq_true rfl) ?_
      refine kv_p (fun _ _ _ _ _ _ v => vv_aloadr (pc := 62) d_U_apply_62 (cp_isr_rf (kr G p6)) rfl v) ?_
      obtain ⟨b13, w⟩ := w
      refine kw_grN (pc := 64) d_U_apply_64 fl_U_71 (nd_bpush b13) rfl rfl ?_
      refine kv_p (fun _ _ _ _ _ _ v => vv_astore (pc := 67) d_U_apply_67 (cp_isr_rf (kr G ((bpush T9 0 r11 (-1)).2.2.1 p6 6))) (Nat.le_of_ble_eq_true rfl) v) ?_
      refine kv_p (fun _ _ _ _ _ _ v => vv_goto (pc := 69) (tgt := 28) d_U_apply_69 rfl v) ?_
      exact kw_sub [2, 3, 4, 5, 6, 7, 0] rfl (w G H d n0 z0 hd)
def wp_U_apply_124 (D : Nat) (o : cp_G → cp_O) (K' K : cp_K) (p1 : Nat) (x2 : Int32) (x3 : Int32) (p4 : Nat) (x5 : Int32) (p6 : Nat) : Prop := nd K p1 9 ∧ ∃ r4 T2, KC (D + 7) m_V_makeConstant (fun G => [.ref (cp_b G + 6), .int (K.2.1 p1 1), .ref (cp_b G + 14), .int x5]) K (fun _ => some (.int r4)) T2 ∧ ∃ r7 T5, KC (D + 7) m_V_isSmallWithout (fun G => [.ref (cp_b G + 6), .int r4, .int (-1)]) (bcut T2 x5) (fun _ => some (.int r7)) T5 ∧ (((r7 : Int32) = 0 → (o = (fun _ => .inl (some (.int (-1)))) ∧ K' = T5)) ∧ (¬ (r7 : Int32) = 0 → (o = (fun _ => .inl (some (.int r4))) ∧ K' = T5)))
theorem b_U_apply_124 {D : Nat} {o : cp_G → cp_O} {K' K : cp_K} {p1 : Nat} {x2 : Int32} {x3 : Int32} {p4 : Nat} {x5 : Int32} {p6 : Nat} (w : wp_U_apply_124 D o K' K p1 x2 x3 p4 x5 p6) : JC (D + 8) m_U_apply o K' 124 (fun G => [(0, .ref (cp_b G + 23)), (1, va_rf (kr G p1)), (2, .int x2), (3, .int x3), (4, va_rf (kr G p4)), (5, .int x5), (6, va_rf (kr G p6))]) (fun _ => []) K := by
  unfold wp_U_apply_124 at w
  intro G H d n0 z0 hd
  show kV G H m_U_apply d n0 z0 (o G) K' 124 [(0, .ref (cp_b G + 23)), (1, va_rf (kr G p1)), (2, .int x2), (3, .int x3), (4, va_rf (kr G p4)), (5, .int x5), (6, va_rf (kr G p6))] [] K
  refine kv_p (fun _ _ _ _ _ _ v => vv_aload_n (pc := 124) d_U_apply_124 rfl v) ?_
  refine kw_gf (pc := 125) 6 d_U_apply_125 fl_U_15 (Or.inl ⟨by decide, rfl⟩) rfl (by decide) ?_
  refine kv_p (fun _ _ _ _ _ _ v => vv_aload_nr (pc := 128) d_U_apply_128 (cp_isr_rf (kr G p1)) rfl v) ?_
  obtain ⟨b1, w⟩ := w
  refine kw_giN (pc := 129) d_U_apply_129 fl_U_64 b1 rfl rfl ?_
  refine kv_p (fun _ _ _ _ _ _ v => vv_aload_n (pc := 132) d_U_apply_132 rfl v) ?_
  refine kw_gf (pc := 133) 14 d_U_apply_133 fl_U_19 (Or.inl ⟨by decide, rfl⟩) rfl (by decide) ?_
  refine kv_p (fun _ _ _ _ _ _ v => vv_iload (pc := 136) d_U_apply_136 rfl v) ?_
  obtain ⟨r4, T2, c3, w⟩ := w
  refine kw_cv (pc := 138) (As := [.int (K.2.1 p1 1), .ref (cp_b G + 14), .int x5]) d_U_apply_138 c3 rfl k_V_makeConstant ml_U_109 (Or.inl ⟨by decide, rfl⟩) (by omega) (Nat.le_of_ble_eq_true rfl) ?_
  refine kv_p (fun _ _ _ _ _ _ v => vv_istore (pc := 141) d_U_apply_141 (Nat.le_of_ble_eq_true rfl) v) ?_
  refine kv_p (fun _ _ _ _ _ _ v => vv_aload_n (pc := 143) d_U_apply_143 rfl v) ?_
  refine kw_gf (pc := 144) 14 d_U_apply_144 fl_U_19 (Or.inl ⟨by decide, rfl⟩) rfl (by decide) ?_
  refine kv_p (fun _ _ _ _ _ _ v => vv_iload (pc := 147) d_U_apply_147 rfl v) ?_
  refine kw_cv (pc := 149) (As := [.int x5]) (As0 := (fun G => [.ref (cp_b G + 14), .int x5])) d_U_apply_149 (C_Bcut) rfl k_B_cut ml_U_55 (Or.inl ⟨by decide, rfl⟩) (by omega) (Nat.le_of_ble_eq_true rfl) ?_
  refine kv_p (fun _ _ _ _ _ _ v => vv_aload_n (pc := 152) d_U_apply_152 rfl v) ?_
  refine kw_gf (pc := 153) 6 d_U_apply_153 fl_U_15 (Or.inl ⟨by decide, rfl⟩) rfl (by decide) ?_
  refine kv_p (fun _ _ _ _ _ _ v => vv_iload (pc := 156) d_U_apply_156 rfl v) ?_
  refine kv_p (fun _ _ _ _ _ _ v => vv_iconst (pc := 158) (v := (-1)) d_U_apply_158 rfl v) ?_
  obtain ⟨r7, T5, c6, w⟩ := w
  refine kw_cv (pc := 159) (As := [.int r4, .int (-1)]) d_U_apply_159 c6 rfl k_V_isSmallWithout ml_U_113 (Or.inl ⟨by decide, rfl⟩) (by omega) (Nat.le_of_ble_eq_true rfl) ?_
  by_cases hc : (r7 : Int32) = 0
  · replace w := w.1 hc
    refine kv_p (fun _ _ _ _ _ _ v => vv_if_eq (pc := 162) (tgt := 170) d_U_apply_162 rfl (fun _ => v) (fun hn => absurd hc hn)) ?_
    refine kv_p (fun _ _ _ _ _ _ v => vv_iconst (pc := 170) (v := (-1)) d_U_apply_170 rfl v) ?_
    obtain ⟨rfl, rfl⟩ := w
    exact kv_e (fun _ _ => vv_iret (pc := 171) d_U_apply_171 rfl)
  · replace w := w.2 hc
    refine kv_p (fun _ _ _ _ _ _ v => vv_if_eq (pc := 162) (tgt := 170) d_U_apply_162 rfl (fun hn => absurd hn hc) (fun _ => v)) ?_
    refine kv_p (fun _ _ _ _ _ _ v => vv_iload (pc := 165) d_U_apply_165 rfl v) ?_
    refine kv_p (fun _ _ _ _ _ _ v => vv_goto (pc := 167) (tgt := 171) d_U_apply_167 rfl v) ?_
    obtain ⟨rfl, rfl⟩ := w
    exact kv_e (fun _ _ => vv_iret (pc := 171) d_U_apply_171 rfl)
def wp_U_reckon_0 (D : Nat) (o : cp_G → cp_O) (K' K : cp_K) (p1 : Nat) (x2 : Int32) (x3 : Int32) : Prop := nd K p1 9 ∧ ∃ r4 T2, KC (D + 7) m_U_workAndLook (fun G => [.ref (cp_b G + 23), va_rf (kr G (K.2.2.1 p1 4)), .int (x2 + 1), .int x3]) K (fun _ => some (.int r4)) T2 ∧ ((¬ (r4 : Int32) = (-1) → nd T2 p1 9 ∧ ∃ r8 T6, KC (D + 7) m_U_workAndLook (fun G => [.ref (cp_b G + 23), va_rf (kr G (T2.2.2.1 p1 5)), .int (x2 + 1), .int x3]) T2 (fun _ => some (.int r8)) T6 ∧ ((¬ ((arn T6 r4 r8) : Int32) = 0 → nd T6 p1 9 ∧ ((¬ ((T6.2.1 p1 0) : Int32) = 7 → rsz T6 7 + 2 < k_lim 7 ∧ (o = (fun _ => .inl (some (.int (nI (rsz T6 7))))) ∧ K' = (mks T6 1 ((rget T6 7 (r4 + 1)) - (rget T6 7 (r8 + 1)))))) ∧ (((T6.2.1 p1 0) : Int32) = 7 → rsz T6 7 + 2 < k_lim 7 ∧ (o = (fun _ => .inl (some (.int (nI (rsz T6 7))))) ∧ K' = (mks T6 1 ((rget T6 7 (r4 + 1)) + (rget T6 7 (r8 + 1)))))))) ∧ (((arn T6 r4 r8) : Int32) = 0 → (o = (fun _ => .inl (some (.int (-1)))) ∧ K' = T6)))) ∧ ((r4 : Int32) = (-1) → ((¬ ((arn T2 r4 (-1)) : Int32) = 0 → nd T2 p1 9 ∧ ((¬ ((T2.2.1 p1 0) : Int32) = 7 → rsz T2 7 + 2 < k_lim 7 ∧ (o = (fun _ => .inl (some (.int (nI (rsz T2 7))))) ∧ K' = (mks T2 1 ((rget T2 7 (r4 + 1)) - (rget T2 7 ((-1) + 1)))))) ∧ (((T2.2.1 p1 0) : Int32) = 7 → rsz T2 7 + 2 < k_lim 7 ∧ (o = (fun _ => .inl (some (.int (nI (rsz T2 7))))) ∧ K' = (mks T2 1 ((rget T2 7 (r4 + 1)) + (rget T2 7 ((-1) + 1)))))))) ∧ (((arn T2 r4 (-1)) : Int32) = 0 → (o = (fun _ => .inl (some (.int (-1)))) ∧ K' = T2)))))
theorem b_U_reckon_0 {D : Nat} {o : cp_G → cp_O} {K' K : cp_K} {p1 : Nat} {x2 : Int32} {x3 : Int32} (w : wp_U_reckon_0 D o K' K p1 x2 x3) : JC (D + 8) m_U_reckon o K' 0 (fun G => [(0, .ref (cp_b G + 23)), (1, va_rf (kr G p1)), (2, .int x2), (3, .int x3)]) (fun _ => []) K := by
  unfold wp_U_reckon_0 at w
  intro G H d n0 z0 hd
  show kV G H m_U_reckon d n0 z0 (o G) K' 0 [(0, .ref (cp_b G + 23)), (1, va_rf (kr G p1)), (2, .int x2), (3, .int x3)] [] K
  refine kv_p (fun _ _ _ _ _ _ v => vv_aload_n (pc := 0) d_U_reckon_0 rfl v) ?_
  refine kv_p (fun _ _ _ _ _ _ v => vv_aload_nr (pc := 1) d_U_reckon_1 (cp_isr_rf (kr G p1)) rfl v) ?_
  obtain ⟨b1, w⟩ := w
  refine kw_grN (pc := 2) d_U_reckon_2 fl_U_61 b1 rfl rfl ?_
  refine kv_p (fun _ _ _ _ _ _ v => vv_iload_n (pc := 5) d_U_reckon_5 rfl v) ?_
  refine kv_p (fun _ _ _ _ _ _ v => vv_iconst (pc := 6) (v := 1) d_U_reckon_6 rfl v) ?_
  refine kv_p (fun _ _ _ _ _ _ v => vv_iadd (pc := 7) d_U_reckon_7 v) ?_
  refine kv_p (fun _ _ _ _ _ _ v => vv_iload_n (pc := 8) d_U_reckon_8 rfl v) ?_
  obtain ⟨r4, T2, c3, w⟩ := w
  refine kw_cv (pc := 9) (As := [va_rf (kr G (K.2.2.1 p1 4)), .int (x2 + 1), .int x3]) d_U_reckon_9 c3 rfl k_U_workAndLook ml_U_117 (Or.inl ⟨by decide, rfl⟩) (by omega) (Nat.le_of_ble_eq_true rfl) ?_
  refine kv_p (fun _ _ _ _ _ _ v => vv_istore (pc := 12) d_U_reckon_12 (Nat.le_of_ble_eq_true rfl) v) ?_
  refine kv_p (fun _ _ _ _ _ _ v => vv_iload (pc := 14) d_U_reckon_14 rfl v) ?_
  refine kv_p (fun _ _ _ _ _ _ v => vv_iconst (pc := 16) (v := (-1)) d_U_reckon_16 rfl v) ?_
  by_cases hc : (r4 : Int32) = (-1)
  · replace w := w.2 hc
    refine kv_p (fun _ _ _ _ _ _ v => vv_icmp_ne (pc := 17) (tgt := 24) d_U_reckon_17 rfl (fun hn => absurd hc hn) (fun _ => v)) ?_
    refine kv_p (fun _ _ _ _ _ _ v => vv_iconst (pc := 20) (v := (-1)) d_U_reckon_20 rfl v) ?_
    refine kv_p (fun _ _ _ _ _ _ v => vv_goto (pc := 21) (tgt := 36) d_U_reckon_21 rfl v) ?_
    refine kv_p (fun _ _ _ _ _ _ v => vv_istore (pc := 36) d_U_reckon_36 (Nat.le_of_ble_eq_true rfl) v) ?_
    refine kv_p (fun _ _ _ _ _ _ v => vv_aload_n (pc := 38) d_U_reckon_38 rfl v) ?_
    refine kv_p (fun _ _ _ _ _ _ v => vv_iload (pc := 39) d_U_reckon_39 rfl v) ?_
    refine kv_p (fun _ _ _ _ _ _ v => vv_iload (pc := 41) d_U_reckon_41 rfl v) ?_
    refine kw_cv (pc := 43) (As := [.int r4, .int (-1)]) (As0 := (fun G => [.ref (cp_b G + 23), .int r4, .int (-1)])) d_U_reckon_43 (C_UareNumbers) rfl k_U_areNumbers ml_U_120 (Or.inl ⟨by decide, rfl⟩) (by omega) (Nat.le_of_ble_eq_true rfl) ?_
    by_cases hc : ((arn T2 r4 (-1)) : Int32) = 0
    · replace w := w.2 hc
      refine kv_p (fun _ _ _ _ _ _ v => vv_if_ne (pc := 46) (tgt := 51) d_U_reckon_46 rfl (fun hn => absurd hc hn) (fun _ => v)) ?_
      refine kv_p (fun _ _ _ _ _ _ v => vv_iconst (pc := 49) (v := (-1)) d_U_reckon_49 rfl v) ?_
      obtain ⟨rfl, rfl⟩ := w
      exact kv_e (fun _ _ => vv_iret (pc := 50) d_U_reckon_50 rfl)
    · replace w := w.1 hc
      refine kv_p (fun _ _ _ _ _ _ v => vv_if_ne (pc := 46) (tgt := 51) d_U_reckon_46 rfl (fun _ => v) (fun hn => absurd hn hc)) ?_
      refine kv_p (fun _ _ _ _ _ _ v => vv_aload_n (pc := 51) d_U_reckon_51 rfl v) ?_
      refine kw_gf (pc := 52) 6 d_U_reckon_52 fl_U_15 (Or.inl ⟨by decide, rfl⟩) rfl (by decide) ?_
      refine kv_p (fun _ _ _ _ _ _ v => vv_iload (pc := 55) d_U_reckon_55 rfl v) ?_
      refine kw_cv (pc := 57) (As := [.int r4]) (As0 := (fun G => [.ref (cp_b G + 6), .int r4])) d_U_reckon_57 (C_VdatumOf) rfl k_V_datumOf ml_U_123 (Or.inl ⟨by decide, rfl⟩) (by omega) (Nat.le_of_ble_eq_true rfl) ?_
      refine kv_p (fun _ _ _ _ _ _ v => vv_istore (pc := 60) d_U_reckon_60 (Nat.le_of_ble_eq_true rfl) v) ?_
      refine kv_p (fun _ _ _ _ _ _ v => vv_aload_n (pc := 62) d_U_reckon_62 rfl v) ?_
      refine kw_gf (pc := 63) 6 d_U_reckon_63 fl_U_15 (Or.inl ⟨by decide, rfl⟩) rfl (by decide) ?_
      refine kv_p (fun _ _ _ _ _ _ v => vv_iload (pc := 66) d_U_reckon_66 rfl v) ?_
      refine kw_cv (pc := 68) (As := [.int (-1)]) (As0 := (fun G => [.ref (cp_b G + 6), .int (-1)])) d_U_reckon_68 (C_VdatumOf) rfl k_V_datumOf ml_U_123 (Or.inl ⟨by decide, rfl⟩) (by omega) (Nat.le_of_ble_eq_true rfl) ?_
      refine kv_p (fun _ _ _ _ _ _ v => vv_istore (pc := 71) d_U_reckon_71 (Nat.le_of_ble_eq_true rfl) v) ?_
      refine kv_p (fun _ _ _ _ _ _ v => vv_aload_n (pc := 73) d_U_reckon_73 rfl v) ?_
      refine kw_gf (pc := 74) 6 d_U_reckon_74 fl_U_15 (Or.inl ⟨by decide, rfl⟩) rfl (by decide) ?_
      refine kv_p (fun _ _ _ _ _ _ v => vv_iconst (pc := 77) (v := 1) d_U_reckon_77 rfl v) ?_
      refine kv_p (fun _ _ _ _ _ _ v => vv_aload_nr (pc := 78) d_U_reckon_78 (cp_isr_rf (kr G p1)) rfl v) ?_
      obtain ⟨b12, w⟩ := w
      refine kw_giN (pc := 79) d_U_reckon_79 fl_U_74 b12 rfl rfl ?_
      refine kv_p (fun _ _ _ _ _ _ v => vv_bipush (pc := 82) (v := 7) d_U_reckon_82 rfl v) ?_
      by_cases hc : ((T2.2.1 p1 0) : Int32) = 7
      · replace w := w.2 hc
        refine kv_p (fun _ _ _ _ _ _ v => vv_icmp_ne (pc := 84) (tgt := 95) d_U_reckon_84 rfl (fun hn => absurd hc hn) (fun _ => v)) ?_
        refine kv_p (fun _ _ _ _ _ _ v => vv_iload (pc := 87) d_U_reckon_87 rfl v) ?_
        refine kv_p (fun _ _ _ _ _ _ v => vv_iload (pc := 89) d_U_reckon_89 rfl v) ?_
        refine kv_p (fun _ _ _ _ _ _ v => vv_iadd (pc := 91) d_U_reckon_91 v) ?_
        refine kv_p (fun _ _ _ _ _ _ v => vv_goto (pc := 92) (tgt := 100) d_U_reckon_92 rfl v) ?_
        obtain ⟨b14, w⟩ := w
        refine kw_cv (pc := 100) (As := [.int 1, .int ((rget T2 7 (r4 + 1)) + (rget T2 7 ((-1) + 1)))]) (As0 := (fun G => [.ref (cp_b G + 6), .int 1, .int ((rget T2 7 (r4 + 1)) + (rget T2 7 ((-1) + 1)))])) d_U_reckon_100 (C_VmakeSimple b14) rfl k_V_makeSimple ml_U_81 (Or.inl ⟨by decide, rfl⟩) (by omega) (Nat.le_of_ble_eq_true rfl) ?_
        obtain ⟨rfl, rfl⟩ := w
        exact kv_e (fun _ _ => vv_iret (pc := 103) d_U_reckon_103 rfl)
      · replace w := w.1 hc
        refine kv_p (fun _ _ _ _ _ _ v => vv_icmp_ne (pc := 84) (tgt := 95) d_U_reckon_84 rfl (fun _ => v) (fun hn => absurd hn hc)) ?_
        refine kv_p (fun _ _ _ _ _ _ v => vv_iload (pc := 95) d_U_reckon_95 rfl v) ?_
        refine kv_p (fun _ _ _ _ _ _ v => vv_iload (pc := 97) d_U_reckon_97 rfl v) ?_
        refine kv_p (fun _ _ _ _ _ _ v => vv_isub (pc := 99) d_U_reckon_99 v) ?_
        obtain ⟨b13, w⟩ := w
        refine kw_cv (pc := 100) (As := [.int 1, .int ((rget T2 7 (r4 + 1)) - (rget T2 7 ((-1) + 1)))]) (As0 := (fun G => [.ref (cp_b G + 6), .int 1, .int ((rget T2 7 (r4 + 1)) - (rget T2 7 ((-1) + 1)))])) d_U_reckon_100 (C_VmakeSimple b13) rfl k_V_makeSimple ml_U_81 (Or.inl ⟨by decide, rfl⟩) (by omega) (Nat.le_of_ble_eq_true rfl) ?_
        obtain ⟨rfl, rfl⟩ := w
        exact kv_e (fun _ _ => vv_iret (pc := 103) d_U_reckon_103 rfl)
  · replace w := w.1 hc
    refine kv_p (fun _ _ _ _ _ _ v => vv_icmp_ne (pc := 17) (tgt := 24) d_U_reckon_17 rfl (fun _ => v) (fun hn => absurd hn hc)) ?_
    refine kv_p (fun _ _ _ _ _ _ v => vv_aload_n (pc := 24) d_U_reckon_24 rfl v) ?_
    refine kv_p (fun _ _ _ _ _ _ v => vv_aload_nr (pc := 25) d_U_reckon_25 (cp_isr_rf (kr G p1)) rfl v) ?_
    obtain ⟨b5, w⟩ := w
    refine kw_grN (pc := 26) d_U_reckon_26 fl_U_46 b5 rfl rfl ?_
    refine kv_p (fun _ _ _ _ _ _ v => vv_iload_n (pc := 29) d_U_reckon_29 rfl v) ?_
    refine kv_p (fun _ _ _ _ _ _ v => vv_iconst (pc := 30) (v := 1) d_U_reckon_30 rfl v) ?_
    refine kv_p (fun _ _ _ _ _ _ v => vv_iadd (pc := 31) d_U_reckon_31 v) ?_
    refine kv_p (fun _ _ _ _ _ _ v => vv_iload_n (pc := 32) d_U_reckon_32 rfl v) ?_
    obtain ⟨r8, T6, c7, w⟩ := w
    refine kw_cv (pc := 33) (As := [va_rf (kr G (T2.2.2.1 p1 5)), .int (x2 + 1), .int x3]) d_U_reckon_33 c7 rfl k_U_workAndLook ml_U_117 (Or.inl ⟨by decide, rfl⟩) (by omega) (Nat.le_of_ble_eq_true rfl) ?_
    refine kv_p (fun _ _ _ _ _ _ v => vv_istore (pc := 36) d_U_reckon_36 (Nat.le_of_ble_eq_true rfl) v) ?_
    refine kv_p (fun _ _ _ _ _ _ v => vv_aload_n (pc := 38) d_U_reckon_38 rfl v) ?_
    refine kv_p (fun _ _ _ _ _ _ v => vv_iload (pc := 39) d_U_reckon_39 rfl v) ?_
    refine kv_p (fun _ _ _ _ _ _ v => vv_iload (pc := 41) d_U_reckon_41 rfl v) ?_
    refine kw_cv (pc := 43) (As := [.int r4, .int r8]) (As0 := (fun G => [.ref (cp_b G + 23), .int r4, .int r8])) d_U_reckon_43 (C_UareNumbers) rfl k_U_areNumbers ml_U_120 (Or.inl ⟨by decide, rfl⟩) (by omega) (Nat.le_of_ble_eq_true rfl) ?_
    by_cases hc : ((arn T6 r4 r8) : Int32) = 0
    · replace w := w.2 hc
      refine kv_p (fun _ _ _ _ _ _ v => vv_if_ne (pc := 46) (tgt := 51) d_U_reckon_46 rfl (fun hn => absurd hc hn) (fun _ => v)) ?_
      refine kv_p (fun _ _ _ _ _ _ v => vv_iconst (pc := 49) (v := (-1)) d_U_reckon_49 rfl v) ?_
      obtain ⟨rfl, rfl⟩ := w
      exact kv_e (fun _ _ => vv_iret (pc := 50) d_U_reckon_50 rfl)
    · replace w := w.1 hc
      refine kv_p (fun _ _ _ _ _ _ v => vv_if_ne (pc := 46) (tgt := 51) d_U_reckon_46 rfl (fun _ => v) (fun hn => absurd hn hc)) ?_
      refine kv_p (fun _ _ _ _ _ _ v => vv_aload_n (pc := 51) d_U_reckon_51 rfl v) ?_
      refine kw_gf (pc := 52) 6 d_U_reckon_52 fl_U_15 (Or.inl ⟨by decide, rfl⟩) rfl (by decide) ?_
      refine kv_p (fun _ _ _ _ _ _ v => vv_iload (pc := 55) d_U_reckon_55 rfl v) ?_
      refine kw_cv (pc := 57) (As := [.int r4]) (As0 := (fun G => [.ref (cp_b G + 6), .int r4])) d_U_reckon_57 (C_VdatumOf) rfl k_V_datumOf ml_U_123 (Or.inl ⟨by decide, rfl⟩) (by omega) (Nat.le_of_ble_eq_true rfl) ?_
      refine kv_p (fun _ _ _ _ _ _ v => vv_istore (pc := 60) d_U_reckon_60 (Nat.le_of_ble_eq_true rfl) v) ?_
      refine kv_p (fun _ _ _ _ _ _ v => vv_aload_n (pc := 62) d_U_reckon_62 rfl v) ?_
      refine kw_gf (pc := 63) 6 d_U_reckon_63 fl_U_15 (Or.inl ⟨by decide, rfl⟩) rfl (by decide) ?_
      refine kv_p (fun _ _ _ _ _ _ v => vv_iload (pc := 66) d_U_reckon_66 rfl v) ?_
      refine kw_cv (pc := 68) (As := [.int r8]) (As0 := (fun G => [.ref (cp_b G + 6), .int r8])) d_U_reckon_68 (C_VdatumOf) rfl k_V_datumOf ml_U_123 (Or.inl ⟨by decide, rfl⟩) (by omega) (Nat.le_of_ble_eq_true rfl) ?_
      refine kv_p (fun _ _ _ _ _ _ v => vv_istore (pc := 71) d_U_reckon_71 (Nat.le_of_ble_eq_true rfl) v) ?_
      refine kv_p (fun _ _ _ _ _ _ v => vv_aload_n (pc := 73) d_U_reckon_73 rfl v) ?_
      refine kw_gf (pc := 74) 6 d_U_reckon_74 fl_U_15 (Or.inl ⟨by decide, rfl⟩) rfl (by decide) ?_
      refine kv_p (fun _ _ _ _ _ _ v => vv_iconst (pc := 77) (v := 1) d_U_reckon_77 rfl v) ?_
      refine kv_p (fun _ _ _ _ _ _ v => vv_aload_nr (pc := 78) d_U_reckon_78 (cp_isr_rf (kr G p1)) rfl v) ?_
      obtain ⟨b9, w⟩ := w
      refine kw_giN (pc := 79) d_U_reckon_79 fl_U_74 b9 rfl rfl ?_
      refine kv_p (fun _ _ _ _ _ _ v => vv_bipush (pc := 82) (v := 7) d_U_reckon_82 rfl v) ?_
      by_cases hc : ((T6.2.1 p1 0) : Int32) = 7
      · replace w := w.2 hc
        refine kv_p (fun _ _ _ _ _ _ v => vv_icmp_ne (pc := 84) (tgt := 95) d_U_reckon_84 rfl (fun hn => absurd hc hn) (fun _ => v)) ?_
        refine kv_p (fun _ _ _ _ _ _ v => vv_iload (pc := 87) d_U_reckon_87 rfl v) ?_
        refine kv_p (fun _ _ _ _ _ _ v => vv_iload (pc := 89) d_U_reckon_89 rfl v) ?_
        refine kv_p (fun _ _ _ _ _ _ v => vv_iadd (pc := 91) d_U_reckon_91 v) ?_
        refine kv_p (fun _ _ _ _ _ _ v => vv_goto (pc := 92) (tgt := 100) d_U_reckon_92 rfl v) ?_
        obtain ⟨b11, w⟩ := w
        refine kw_cv (pc := 100) (As := [.int 1, .int ((rget T6 7 (r4 + 1)) + (rget T6 7 (r8 + 1)))]) (As0 := (fun G => [.ref (cp_b G + 6), .int 1, .int ((rget T6 7 (r4 + 1)) + (rget T6 7 (r8 + 1)))])) d_U_reckon_100 (C_VmakeSimple b11) rfl k_V_makeSimple ml_U_81 (Or.inl ⟨by decide, rfl⟩) (by omega) (Nat.le_of_ble_eq_true rfl) ?_
        obtain ⟨rfl, rfl⟩ := w
        exact kv_e (fun _ _ => vv_iret (pc := 103) d_U_reckon_103 rfl)
      · replace w := w.1 hc
        refine kv_p (fun _ _ _ _ _ _ v => vv_icmp_ne (pc := 84) (tgt := 95) d_U_reckon_84 rfl (fun _ => v) (fun hn => absurd hn hc)) ?_
        refine kv_p (fun _ _ _ _ _ _ v => vv_iload (pc := 95) d_U_reckon_95 rfl v) ?_
        refine kv_p (fun _ _ _ _ _ _ v => vv_iload (pc := 97) d_U_reckon_97 rfl v) ?_
        refine kv_p (fun _ _ _ _ _ _ v => vv_isub (pc := 99) d_U_reckon_99 v) ?_
        obtain ⟨b10, w⟩ := w
        refine kw_cv (pc := 100) (As := [.int 1, .int ((rget T6 7 (r4 + 1)) - (rget T6 7 (r8 + 1)))]) (As0 := (fun G => [.ref (cp_b G + 6), .int 1, .int ((rget T6 7 (r4 + 1)) - (rget T6 7 (r8 + 1)))])) d_U_reckon_100 (C_VmakeSimple b10) rfl k_V_makeSimple ml_U_81 (Or.inl ⟨by decide, rfl⟩) (by omega) (Nat.le_of_ble_eq_true rfl) ?_
        obtain ⟨rfl, rfl⟩ := w
        exact kv_e (fun _ _ => vv_iret (pc := 103) d_U_reckon_103 rfl)
theorem c_U_reckon {D : Nat} {o : cp_G → Option Value} {K' K : cp_K} {p1 : Nat} {x2 : Int32} {x3 : Int32} (w : wp_U_reckon_0 D (fun G => .inl (o G)) K' K p1 x2 x3) : KC (D + 8) m_U_reckon (fun G => [.ref (cp_b G + 23), va_rf (kr G p1), .int x2, .int x3]) K o K' := KC.of2 rfl (fun G => by cases kr G p1 <;> exact ⟨Nat.le_of_ble_eq_true rfl, rfl⟩) (b_U_reckon_0 w)
def wp_U_match_0 (D : Nat) (o : cp_G → cp_O) (K' K : cp_K) (p1 : Nat) (x2 : Int32) (x3 : Int32) : Prop := nd K p1 9 ∧ ∃ r4 T2, KC (D + 7) m_U_workAndLook (fun G => [.ref (cp_b G + 23), va_rf (kr G (K.2.2.1 p1 4)), .int (x2 + 1), .int x3]) K (fun _ => some (.int r4)) T2 ∧ (((K.2.2.1 p1 4) = (0 : Nat) → (o = (fun _ => .inl (some (.int (-1)))) ∧ K' = T2)) ∧ (¬ (K.2.2.1 p1 4) = (0 : Nat) → (((r4 : Int32) = (-1) → (o = (fun _ => .inl (some (.int (-1)))) ∧ K' = T2)) ∧ (¬ (r4 : Int32) = (-1) → ((((if rget T2 7 r4 = 4 then 1 else 0) : Int32) = 0 → nd T2 (K.2.2.1 p1 4) 9 ∧ JC (D + 8) m_U_match o K' 50 (fun G => [(0, .ref (cp_b G + 23)), (1, va_rf (kr G p1)), (2, .int x2), (3, .int x3), (4, va_rf (kr G (K.2.2.1 p1 4))), (5, .int r4), (6, va_rf (kr G (T2.2.2.1 (K.2.2.1 p1 4) 6)))]) (fun _ => []) T2) ∧ (¬ ((if rget T2 7 r4 = 4 then 1 else 0) : Int32) = 0 → (o = (fun _ => .inl (some (.int (-1)))) ∧ K' = T2)))))))
theorem b_U_match_0 {D : Nat} {o : cp_G → cp_O} {K' K : cp_K} {p1 : Nat} {x2 : Int32} {x3 : Int32} (w : wp_U_match_0 D o K' K p1 x2 x3) : JC (D + 8) m_U_match o K' 0 (fun G => [(0, .ref (cp_b G + 23)), (1, va_rf (kr G p1)), (2, .int x2), (3, .int x3)]) (fun _ => []) K := by
  unfold wp_U_match_0 at w
  intro G H d n0 z0 hd
  show kV G H m_U_match d n0 z0 (o G) K' 0 [(0, .ref (cp_b G + 23)), (1, va_rf (kr G p1)), (2, .int x2), (3, .int x3)] [] K
  refine kv_p (fun _ _ _ _ _ _ v => vv_aload_nr (pc := 0) d_U_match_0 (cp_isr_rf (kr G p1)) rfl v) ?_
  obtain ⟨b1, w⟩ := w
  refine kw_grN (pc := 1) d_U_match_1 fl_U_61 b1 rfl rfl ?_
  refine kv_p (fun _ _ _ _ _ _ v => vv_astore (pc := 4) d_U_match_4 (cp_isr_rf (kr G (K.2.2.1 p1 4))) (Nat.le_of_ble_eq_true rfl) v) ?_
  refine kv_p (fun _ _ _ _ _ _ v => vv_aload_n (pc := 6) d_U_match_6 rfl v) ?_
  refine kv_p (fun _ _ _ _ _ _ v => vv_aloadr (pc := 7) d_U_match_7 (cp_isr_rf (kr G (K.2.2.1 p1 4))) rfl v) ?_
  refine kv_p (fun _ _ _ _ _ _ v => vv_iload_n (pc := 9) d_U_match_9 rfl v) ?_
  refine kv_p (fun _ _ _ _ _ _ v => vv_iconst (pc := 10) (v := 1) d_U_match_10 rfl v) ?_
  refine kv_p (fun _ _ _ _ _ _ v => vv_iadd (pc := 11) d_U_match_11 v) ?_
  refine kv_p (fun _ _ _ _ _ _ v => vv_iload_n (pc := 12) d_U_match_12 rfl v) ?_
  obtain ⟨r4, T2, c3, w⟩ := w
  refine kw_cv (pc := 13) (As := [va_rf (kr G (K.2.2.1 p1 4)), .int (x2 + 1), .int x3]) d_U_match_13 c3 rfl k_U_workAndLook ml_U_117 (Or.inl ⟨by decide, rfl⟩) (by omega) (Nat.le_of_ble_eq_true rfl) ?_
  refine kv_p (fun _ _ _ _ _ _ v => vv_istore (pc := 16) d_U_match_16 (Nat.le_of_ble_eq_true rfl) v) ?_
  refine kw_lv (lv := [(5, .int r4), (4, va_rf (kr G (K.2.2.1 p1 4))), (0, .ref (cp_b G + 23)), (1, va_rf (kr G p1)), (2, .int x2), (3, .int x3)]) (by cases kr G (K.2.2.1 p1 4) <;> rfl) ?_
  refine kv_p (fun _ _ _ _ _ _ v => vv_aloadr (pc := 18) d_U_match_18 (cp_isr_rf (kr G (K.2.2.1 p1 4))) rfl v) ?_
  refine kw_ifnull (pc := 20) (tgt := 41) d_U_match_20 rfl (fun hc => ?_) (fun hc => ?_)
  · replace w := w.1 hc
    refine kv_p (fun _ _ _ _ _ _ v => vv_iconst (pc := 41) (v := (-1)) d_U_match_41 rfl v) ?_
    obtain ⟨rfl, rfl⟩ := w
    exact kv_e (fun _ _ => vv_iret (pc := 42) d_U_match_42 rfl)
  · replace w := w.2 hc
    refine kv_p (fun _ _ _ _ _ _ v => vv_iload (pc := 23) d_U_match_23 rfl v) ?_
    refine kv_p (fun _ _ _ _ _ _ v => vv_iconst (pc := 25) (v := (-1)) d_U_match_25 rfl v) ?_
    by_cases hc : (r4 : Int32) = (-1)
    · replace w := w.1 hc
      refine kv_p (fun _ _ _ _ _ _ v => vv_icmp_eq (pc := 26) (tgt := 41) d_U_match_26 rfl (fun _ => v) (fun hn => absurd hc hn)) ?_
      refine kv_p (fun _ _ _ _ _ _ v => vv_iconst (pc := 41) (v := (-1)) d_U_match_41 rfl v) ?_
      obtain ⟨rfl, rfl⟩ := w
      exact kv_e (fun _ _ => vv_iret (pc := 42) d_U_match_42 rfl)
    · replace w := w.2 hc
      refine kv_p (fun _ _ _ _ _ _ v => vv_icmp_eq (pc := 26) (tgt := 41) d_U_match_26 rfl (fun hn => absurd hn hc) (fun _ => v)) ?_
      refine kv_p (fun _ _ _ _ _ _ v => vv_aload_n (pc := 29) d_U_match_29 rfl v) ?_
      refine kw_gf (pc := 30) 6 d_U_match_30 fl_U_15 (Or.inl ⟨by decide, rfl⟩) rfl (by decide) ?_
      refine kv_p (fun _ _ _ _ _ _ v => vv_iload (pc := 33) d_U_match_33 rfl v) ?_
      refine kw_cv (pc := 35) (As := [.int r4]) (As0 := (fun G => [.ref (cp_b G + 6), .int r4])) d_U_match_35 (C_VisOpenHole) rfl k_V_isOpenHole ml_U_127 (Or.inl ⟨by decide, rfl⟩) (by omega) (Nat.le_of_ble_eq_true rfl) ?_
      by_cases hc : ((if rget T2 7 r4 = 4 then 1 else 0) : Int32) = 0
      · replace w := w.1 hc
        refine kv_p (fun _ _ _ _ _ _ v => vv_if_eq (pc := 38) (tgt := 43) d_U_match_38 rfl (fun _ => v) (fun hn => absurd hc hn)) ?_
        refine kv_p (fun _ _ _ _ _ _ v => vv_aloadr (pc := 43) d_U_match_43 (cp_isr_rf (kr G (K.2.2.1 p1 4))) rfl v) ?_
        obtain ⟨b5, w⟩ := w
        refine kw_grN (pc := 45) d_U_match_45 fl_U_71 b5 rfl rfl ?_
        refine kv_p (fun _ _ _ _ _ _ v => vv_astore (pc := 48) d_U_match_48 (cp_isr_rf (kr G (T2.2.2.1 (K.2.2.1 p1 4) 6))) (Nat.le_of_ble_eq_true rfl) v) ?_
        exact kw_sub [3, 4, 5, 6, 2, 1, 0] rfl (w G H d n0 z0 hd)
      · replace w := w.2 hc
        refine kv_p (fun _ _ _ _ _ _ v => vv_if_eq (pc := 38) (tgt := 43) d_U_match_38 rfl (fun hn => absurd hn hc) (fun _ => v)) ?_
        refine kv_p (fun _ _ _ _ _ _ v => vv_iconst (pc := 41) (v := (-1)) d_U_match_41 rfl v) ?_
        obtain ⟨rfl, rfl⟩ := w
        exact kv_e (fun _ _ => vv_iret (pc := 42) d_U_match_42 rfl)
theorem c_U_match {D : Nat} {o : cp_G → Option Value} {K' K : cp_K} {p1 : Nat} {x2 : Int32} {x3 : Int32} (w : wp_U_match_0 D (fun G => .inl (o G)) K' K p1 x2 x3) : KC (D + 8) m_U_match (fun G => [.ref (cp_b G + 23), va_rf (kr G p1), .int x2, .int x3]) K o K' := KC.of2 rfl (fun G => by cases kr G p1 <;> exact ⟨Nat.le_of_ble_eq_true rfl, rfl⟩) (b_U_match_0 w)
def wp_U_match_50 (D : Nat) (o : cp_G → cp_O) (K' K : cp_K) (p1 : Nat) (x2 : Int32) (x3 : Int32) (p4 : Nat) (x5 : Int32) (p6 : Nat) : Prop := ((p6 = (0 : Nat) → (o = (fun _ => .inl (some (.int (-1)))) ∧ K' = K)) ∧ (¬ p6 = (0 : Nat) → nd K p6 9 ∧ nd K (K.2.2.1 p6 4) 9 ∧ ((((ufit K (K.2.2.1 p6 4) x5) : Int32) = 0 → JC (D + 8) m_U_match o K' 50 (fun G => [(0, .ref (cp_b G + 23)), (1, va_rf (kr G p1)), (2, .int x2), (3, .int x3), (4, va_rf (kr G p4)), (5, .int x5), (6, va_rf (kr G (K.2.2.1 p6 6)))]) (fun _ => []) K) ∧ (¬ ((ufit K (K.2.2.1 p6 4) x5) : Int32) = 0 → ∃ T3, KC (D + 7) m_U_bindVariables (fun G => [.ref (cp_b G + 23), va_rf (kr G (K.2.2.1 p6 4)), .int x5]) K (fun _ => none) T3 ∧ nd T3 p6 9 ∧ ∃ r8 T6, KC (D + 7) m_U_work (fun G => [.ref (cp_b G + 23), va_rf (kr G (T3.2.2.1 p6 5)), .int (x2 + 1), .int x3]) T3 (fun _ => some (.int r8)) T6 ∧ (o = (fun _ => .inl (some (.int r8))) ∧ K' = (bcut T6 (nI (rsz K 15))))))))
theorem b_U_match_50 {D : Nat} {o : cp_G → cp_O} {K' K : cp_K} {p1 : Nat} {x2 : Int32} {x3 : Int32} {p4 : Nat} {x5 : Int32} {p6 : Nat} (w : wp_U_match_50 D o K' K p1 x2 x3 p4 x5 p6) : JC (D + 8) m_U_match o K' 50 (fun G => [(0, .ref (cp_b G + 23)), (1, va_rf (kr G p1)), (2, .int x2), (3, .int x3), (4, va_rf (kr G p4)), (5, .int x5), (6, va_rf (kr G p6))]) (fun _ => []) K := by
  unfold wp_U_match_50 at w
  intro G H d n0 z0 hd
  show kV G H m_U_match d n0 z0 (o G) K' 50 [(0, .ref (cp_b G + 23)), (1, va_rf (kr G p1)), (2, .int x2), (3, .int x3), (4, va_rf (kr G p4)), (5, .int x5), (6, va_rf (kr G p6))] [] K
  refine kv_p (fun _ _ _ _ _ _ v => vv_aloadr (pc := 50) d_U_match_50 (cp_isr_rf (kr G p6)) rfl v) ?_
  refine kw_ifnull (pc := 52) (tgt := 126) d_U_match_52 rfl (fun hc => ?_) (fun hc => ?_)
  · replace w := w.1 hc
    refine kv_p (fun _ _ _ _ _ _ v => vv_iconst (pc := 126) (v := (-1)) d_U_match_126 rfl v) ?_
    obtain ⟨rfl, rfl⟩ := w
    exact kv_e (fun _ _ => vv_iret (pc := 127) d_U_match_127 rfl)
  · replace w := w.2 hc
    refine kv_p (fun _ _ _ _ _ _ v => vv_aload_n (pc := 55) d_U_match_55 rfl v) ?_
    refine kv_p (fun _ _ _ _ _ _ v => vv_aloadr (pc := 56) d_U_match_56 (cp_isr_rf (kr G p6)) rfl v) ?_
    obtain ⟨b1, w⟩ := w
    refine kw_grN (pc := 58) d_U_match_58 fl_U_61 b1 rfl rfl ?_
    refine kv_p (fun _ _ _ _ _ _ v => vv_iload (pc := 61) d_U_match_61 rfl v) ?_
    obtain ⟨b2, w⟩ := w
    refine kw_cv (pc := 63) (As := [va_rf (kr G (K.2.2.1 p6 4)), .int x5]) (As0 := (fun G => [.ref (cp_b G + 23), va_rf (kr G (K.2.2.1 p6 4)), .int x5])) d_U_match_63 (C_Ufits b2) rfl k_U_fits ml_U_131 (Or.inl ⟨by decide, rfl⟩) (by omega) (Nat.le_of_ble_eq_true rfl) ?_
    by_cases hc : ((ufit K (K.2.2.1 p6 4) x5) : Int32) = 0
    · replace w := w.1 hc
      refine kv_p (fun _ _ _ _ _ _ v => vv_if_eq (pc := 66) (tgt := 116) d_U_match_66 rfl (fun _ => v) (fun hn => absurd hc hn)) ?_
      refine kv_p (fun _ _ _ _ _ _ v => vv_aloadr (pc := 116) d_U_match_116 (cp_isr_rf (kr G p6)) rfl v) ?_
      refine kw_grN (pc := 118) d_U_match_118 fl_U_71 b1 rfl rfl ?_
      refine kv_p (fun _ _ _ _ _ _ v => vv_astore (pc := 121) d_U_match_121 (cp_isr_rf (kr G (K.2.2.1 p6 6))) (Nat.le_of_ble_eq_true rfl) v) ?_
      refine kv_p (fun _ _ _ _ _ _ v => vv_goto (pc := 123) (tgt := 50) d_U_match_123 rfl v) ?_
      exact kw_sub [1, 2, 3, 4, 5, 6, 0] rfl (w G H d n0 z0 hd)
    · replace w := w.2 hc
      refine kv_p (fun _ _ _ _ _ _ v => vv_if_eq (pc := 66) (tgt := 116) d_U_match_66 rfl (fun hn => absurd hn hc) (fun _ => v)) ?_
      refine kv_p (fun _ _ _ _ _ _ v => vv_aload_n (pc := 69) d_U_match_69 rfl v) ?_
      refine kw_gf (pc := 70) 14 d_U_match_70 fl_U_19 (Or.inl ⟨by decide, rfl⟩) rfl (by decide) ?_
      refine kw_cv (pc := 73) (As := []) (As0 := (fun G => [.ref (cp_b G + 14)])) d_U_match_73 (C_Bsize) rfl k_B_size ml_U_98 (Or.inl ⟨by decide, rfl⟩) (by omega) (Nat.le_of_ble_eq_true rfl) ?_
      refine kv_p (fun _ _ _ _ _ _ v => vv_istore (pc := 76) d_U_match_76 (Nat.le_of_ble_eq_true rfl) v) ?_
      refine kw_lv (lv := [(7, .int (nI (rsz K 15))), (0, .ref (cp_b G + 23)), (1, va_rf (kr G p1)), (2, .int x2), (3, .int x3), (4, va_rf (kr G p4)), (5, .int x5), (6, va_rf (kr G p6))]) (by cases kr G p6 <;> rfl) ?_
      refine kv_p (fun _ _ _ _ _ _ v => vv_aload_n (pc := 78) d_U_match_78 rfl v) ?_
      refine kv_p (fun _ _ _ _ _ _ v => vv_aloadr (pc := 79) d_U_match_79 (cp_isr_rf (kr G p6)) rfl v) ?_
      refine kw_grN (pc := 81) d_U_match_81 fl_U_61 b1 rfl rfl ?_
      refine kv_p (fun _ _ _ _ _ _ v => vv_iload (pc := 84) d_U_match_84 rfl v) ?_
      obtain ⟨T3, c4, w⟩ := w
      refine kw_cv (pc := 86) (As := [va_rf (kr G (K.2.2.1 p6 4)), .int x5]) d_U_match_86 c4 rfl k_U_bindVariables ml_U_135 (Or.inl ⟨by decide, rfl⟩) (by omega) (Nat.le_of_ble_eq_true rfl) ?_
      refine kv_p (fun _ _ _ _ _ _ v => vv_aload_n (pc := 89) d_U_match_89 rfl v) ?_
      refine kv_p (fun _ _ _ _ _ _ v => vv_aloadr (pc := 90) d_U_match_90 (cp_isr_rf (kr G p6)) rfl v) ?_
      obtain ⟨b5, w⟩ := w
      refine kw_grN (pc := 92) d_U_match_92 fl_U_46 b5 rfl rfl ?_
      refine kv_p (fun _ _ _ _ _ _ v => vv_iload_n (pc := 95) d_U_match_95 rfl v) ?_
      refine kv_p (fun _ _ _ _ _ _ v => vv_iconst (pc := 96) (v := 1) d_U_match_96 rfl v) ?_
      refine kv_p (fun _ _ _ _ _ _ v => vv_iadd (pc := 97) d_U_match_97 v) ?_
      refine kv_p (fun _ _ _ _ _ _ v => vv_iload_n (pc := 98) d_U_match_98 rfl v) ?_
      obtain ⟨r8, T6, c7, w⟩ := w
      refine kw_cv (pc := 99) (As := [va_rf (kr G (T3.2.2.1 p6 5)), .int (x2 + 1), .int x3]) d_U_match_99 c7 rfl k_U_work ml_U_51 (Or.inl ⟨by decide, rfl⟩) (by omega) (Nat.le_of_ble_eq_true rfl) ?_
      refine kv_p (fun _ _ _ _ _ _ v => vv_istore (pc := 102) d_U_match_102 (Nat.le_of_ble_eq_true rfl) v) ?_
      refine kv_p (fun _ _ _ _ _ _ v => vv_aload_n (pc := 104) d_U_match_104 rfl v) ?_
      refine kw_gf (pc := 105) 14 d_U_match_105 fl_U_19 (Or.inl ⟨by decide, rfl⟩) rfl (by decide) ?_
      refine kv_p (fun _ _ _ _ _ _ v => vv_iload (pc := 108) d_U_match_108 rfl v) ?_
      refine kw_cv (pc := 110) (As := [.int (nI (rsz K 15))]) (As0 := (fun G => [.ref (cp_b G + 14), .int (nI (rsz K 15))])) d_U_match_110 (C_Bcut) rfl k_B_cut ml_U_55 (Or.inl ⟨by decide, rfl⟩) (by omega) (Nat.le_of_ble_eq_true rfl) ?_
      refine kv_p (fun _ _ _ _ _ _ v => vv_iload (pc := 113) d_U_match_113 rfl v) ?_
      obtain ⟨rfl, rfl⟩ := w
      exact kv_e (fun _ _ => vv_iret (pc := 115) d_U_match_115 rfl)
def wp_U_bindVariables_0 (D : Nat) (o : cp_G → cp_O) (K' K : cp_K) (p1 : Nat) (x2 : Int32) : Prop := nd K p1 9 ∧ JC (D + 8) m_U_bindVariables o K' 8 (fun G => [(0, .ref (cp_b G + 23)), (1, va_rf (kr G p1)), (2, .int x2), (3, .int 0), (4, va_rf (kr G (K.2.2.1 p1 4)))]) (fun _ => []) K
theorem b_U_bindVariables_0 {D : Nat} {o : cp_G → cp_O} {K' K : cp_K} {p1 : Nat} {x2 : Int32} (w : wp_U_bindVariables_0 D o K' K p1 x2) : JC (D + 8) m_U_bindVariables o K' 0 (fun G => [(0, .ref (cp_b G + 23)), (1, va_rf (kr G p1)), (2, .int x2)]) (fun _ => []) K := by
  unfold wp_U_bindVariables_0 at w
  intro G H d n0 z0 hd
  show kV G H m_U_bindVariables d n0 z0 (o G) K' 0 [(0, .ref (cp_b G + 23)), (1, va_rf (kr G p1)), (2, .int x2)] [] K
  refine kv_p (fun _ _ _ _ _ _ v => vv_iconst (pc := 0) (v := 0) d_U_bindVariables_0 rfl v) ?_
  refine kv_p (fun _ _ _ _ _ _ v => vv_istore_n (pc := 1) d_U_bindVariables_1 (Nat.le_of_ble_eq_true rfl) v) ?_
  refine kv_p (fun _ _ _ _ _ _ v => vv_aload_nr (pc := 2) d_U_bindVariables_2 (cp_isr_rf (kr G p1)) rfl v) ?_
  obtain ⟨b1, w⟩ := w
  refine kw_grN (pc := 3) d_U_bindVariables_3 fl_U_61 b1 rfl rfl ?_
  refine kv_p (fun _ _ _ _ _ _ v => vv_astore (pc := 6) d_U_bindVariables_6 (cp_isr_rf (kr G (K.2.2.1 p1 4))) (Nat.le_of_ble_eq_true rfl) v) ?_
  exact kw_sub [2, 3, 4, 1, 0] rfl (w G H d n0 z0 hd)
theorem c_U_bindVariables {D : Nat} {o : cp_G → Option Value} {K' K : cp_K} {p1 : Nat} {x2 : Int32} (w : wp_U_bindVariables_0 D (fun G => .inl (o G)) K' K p1 x2) : KC (D + 8) m_U_bindVariables (fun G => [.ref (cp_b G + 23), va_rf (kr G p1), .int x2]) K o K' := KC.of2 rfl (fun G => by cases kr G p1 <;> exact ⟨Nat.le_of_ble_eq_true rfl, rfl⟩) (b_U_bindVariables_0 w)
def wp_U_bindVariables_8 (D : Nat) (o : cp_G → cp_O) (K' K : cp_K) (p1 : Nat) (x2 : Int32) (x3 : Int32) (p4 : Nat) : Prop := ((p4 = (0 : Nat) → (o = (fun _ => .inl none) ∧ K' = K)) ∧ (¬ p4 = (0 : Nat) → nd K p4 9 ∧ (rsz K 15 < k_lim 15 ∧ rsz K 17 < k_lim 17 ∧ rsz K 19 < k_lim 19) ∧ JC (D + 8) m_U_bindVariables o K' 8 (fun G => [(0, .ref (cp_b G + 23)), (1, va_rf (kr G p1)), (2, .int x2), (3, .int (x3 + 1)), (4, va_rf (kr G ((bpush K (K.2.1 p4 1) (rget K 7 ((x2 + 3) + x3)) (-1)).2.2.1 p4 6)))]) (fun _ => []) (bpush K (K.2.1 p4 1) (rget K 7 ((x2 + 3) + x3)) (-1))))
theorem b_U_bindVariables_8 {D : Nat} {o : cp_G → cp_O} {K' K : cp_K} {p1 : Nat} {x2 : Int32} {x3 : Int32} {p4 : Nat} (w : wp_U_bindVariables_8 D o K' K p1 x2 x3 p4) : JC (D + 8) m_U_bindVariables o K' 8 (fun G => [(0, .ref (cp_b G + 23)), (1, va_rf (kr G p1)), (2, .int x2), (3, .int x3), (4, va_rf (kr G p4))]) (fun _ => []) K := by
  unfold wp_U_bindVariables_8 at w
  intro G H d n0 z0 hd
  show kV G H m_U_bindVariables d n0 z0 (o G) K' 8 [(0, .ref (cp_b G + 23)), (1, va_rf (kr G p1)), (2, .int x2), (3, .int x3), (4, va_rf (kr G p4))] [] K
  refine kv_p (fun _ _ _ _ _ _ v => vv_aloadr (pc := 8) d_U_bindVariables_8 (cp_isr_rf (kr G p4)) rfl v) ?_
  refine kw_ifnull (pc := 10) (tgt := 48) d_U_bindVariables_10 rfl (fun hc => ?_) (fun hc => ?_)
  · replace w := w.1 hc
    obtain ⟨rfl, rfl⟩ := w
    exact kv_e (fun _ _ => vv_vret (pc := 48) d_U_bindVariables_48 rfl)
  · replace w := w.2 hc
    refine kv_p (fun _ _ _ _ _ _ v => vv_aload_n (pc := 13) d_U_bindVariables_13 rfl v) ?_
    refine kw_gf (pc := 14) 14 d_U_bindVariables_14 fl_U_19 (Or.inl ⟨by decide, rfl⟩) rfl (by decide) ?_
    refine kv_p (fun _ _ _ _ _ _ v => vv_aloadr (pc := 17) d_U_bindVariables_17 (cp_isr_rf (kr G p4)) rfl v) ?_
    obtain ⟨b1, w⟩ := w
    refine kw_giN (pc := 19) d_U_bindVariables_19 fl_U_64 b1 rfl rfl ?_
    refine kv_p (fun _ _ _ _ _ _ v => vv_aload_n (pc := 22) d_U_bindVariables_22 rfl v) ?_
    refine kw_gf (pc := 23) 6 d_U_bindVariables_23 fl_U_15 (Or.inl ⟨by decide, rfl⟩) rfl (by decide) ?_
    refine kv_p (fun _ _ _ _ _ _ v => vv_iload_n (pc := 26) d_U_bindVariables_26 rfl v) ?_
    refine kv_p (fun _ _ _ _ _ _ v => vv_iload_n (pc := 27) d_U_bindVariables_27 rfl v) ?_
    refine kw_cv (pc := 28) (As := [.int x2, .int x3]) (As0 := (fun G => [.ref (cp_b G + 6), .int x2, .int x3])) d_U_bindVariables_28 (C_VargumentOf) rfl k_V_argumentOf ml_U_142 (Or.inl ⟨by decide, rfl⟩) (by omega) (Nat.le_of_ble_eq_true rfl) ?_
    refine kv_p (fun _ _ _ _ _ _ v => vv_iconst (pc := 31) (v := (-1)) d_U_bindVariables_31 rfl v) ?_
    obtain ⟨b2, w⟩ := w
    refine kw_cv (pc := 32) (As := [.int (K.2.1 p4 1), .int (rget K 7 ((x2 + 3) + x3)), .int (-1)]) (As0 := (fun G => [.ref (cp_b G + 14), .int (K.2.1 p4 1), .int (rget K 7 ((x2 + 3) + x3)), .int (-1)])) d_U_bindVariables_32 (C_Bpush b2) rfl k_B_push ml_U_145 (Or.inl ⟨by decide, rfl⟩) (by omega) (Nat.le_of_ble_eq_true rfl) ?_
    refine kv_p (fun _ _ _ _ _ _ v => vv_iinc (pc := 35) (v := (x3 + 1)) d_U_bindVariables_35 rfl rfl (Nat.le_of_ble_eq_true rfl) v) ?_
    refine kv_p (fun _ _ _ _ _ _ v => vv_aloadr (pc := 38) d_U_bindVariables_38 (cp_isr_rf (kr G p4)) rfl v) ?_
    refine kw_grN (pc := 40) d_U_bindVariables_40 fl_U_71 (nd_bpush b1) rfl rfl ?_
    refine kv_p (fun _ _ _ _ _ _ v => vv_astore (pc := 43) d_U_bindVariables_43 (cp_isr_rf (kr G ((bpush K (K.2.1 p4 1) (rget K 7 ((x2 + 3) + x3)) (-1)).2.2.1 p4 6))) (Nat.le_of_ble_eq_true rfl) v) ?_
    refine kv_p (fun _ _ _ _ _ _ v => vv_goto (pc := 45) (tgt := 8) d_U_bindVariables_45 rfl v) ?_
    exact kw_sub [2, 3, 4, 1, 0] rfl (w G H d n0 z0 hd)
def wp_U_choose_0 (D : Nat) (o : cp_G → cp_O) (K' K : cp_K) (p1 : Nat) (x2 : Int32) (x3 : Int32) : Prop := nd K p1 9 ∧ ((¬ (K.2.2.1 p1 4) = (0 : Nat) → nd K (K.2.2.1 p1 4) 9 ∧ ∃ r5 T3, KC (D + 7) m_U_workAndLook (fun G => [.ref (cp_b G + 23), va_rf (kr G (K.2.2.1 p1 4)), .int (x2 + 1), .int x3]) K (fun _ => some (.int r5)) T3 ∧ ((¬ (r5 : Int32) = (-1) → ∃ r8 T6, KC (D + 7) m_U_workAndLook (fun G => [.ref (cp_b G + 23), va_rf (kr G (K.2.2.1 (K.2.2.1 p1 4) 6)), .int (x2 + 1), .int x3]) T3 (fun _ => some (.int r8)) T6 ∧ nd T6 p1 9 ∧ ((¬ ((T6.2.1 p1 0) : Int32) = 12 → (((K.2.2.1 (K.2.2.1 p1 4) 6) = (0 : Nat) → (o = (fun _ => .inl (some (.int (-1)))) ∧ K' = T6)) ∧ (¬ (K.2.2.1 (K.2.2.1 p1 4) 6) = (0 : Nat) → (((r8 : Int32) = (-1) → (o = (fun _ => .inl (some (.int (-1)))) ∧ K' = T6)) ∧ (¬ (r8 : Int32) = (-1) → JC (D + 8) m_U_choose o K' 101 (fun G => [(0, .ref (cp_b G + 23)), (1, va_rf (kr G p1)), (2, .int x2), (3, .int x3), (4, va_rf (kr G (K.2.2.1 p1 4))), (5, va_rf (kr G (K.2.2.1 (K.2.2.1 p1 4) 6))), (6, .int r5), (7, .int r8), (8, .int 0)]) (fun _ => []) T6))))) ∧ (((T6.2.1 p1 0) : Int32) = 12 → (((K.2.2.1 (K.2.2.1 p1 4) 6) = (0 : Nat) → (o = (fun _ => .inl (some (.int (-1)))) ∧ K' = T6)) ∧ (¬ (K.2.2.1 (K.2.2.1 p1 4) 6) = (0 : Nat) → (((r8 : Int32) = (-1) → (o = (fun _ => .inl (some (.int (-1)))) ∧ K' = T6)) ∧ (¬ (r8 : Int32) = (-1) → ((¬ ((arn T6 r5 r8) : Int32) = 0 → JC (D + 8) m_U_choose o K' 101 (fun G => [(0, .ref (cp_b G + 23)), (1, va_rf (kr G p1)), (2, .int x2), (3, .int x3), (4, va_rf (kr G (K.2.2.1 p1 4))), (5, va_rf (kr G (K.2.2.1 (K.2.2.1 p1 4) 6))), (6, .int r5), (7, .int r8), (8, .int 1)]) (fun _ => []) T6) ∧ (((arn T6 r5 r8) : Int32) = 0 → (o = (fun _ => .inl (some (.int (-1)))) ∧ K' = T6)))))))))) ∧ ((r5 : Int32) = (-1) → nd T3 p1 9 ∧ ((¬ ((T3.2.1 p1 0) : Int32) = 12 → (((K.2.2.1 (K.2.2.1 p1 4) 6) = (0 : Nat) → (o = (fun _ => .inl (some (.int (-1)))) ∧ K' = T3)) ∧ (¬ (K.2.2.1 (K.2.2.1 p1 4) 6) = (0 : Nat) → (o = (fun _ => .inl (some (.int (-1)))) ∧ K' = T3)))) ∧ (((T3.2.1 p1 0) : Int32) = 12 → (((K.2.2.1 (K.2.2.1 p1 4) 6) = (0 : Nat) → (o = (fun _ => .inl (some (.int (-1)))) ∧ K' = T3)) ∧ (¬ (K.2.2.1 (K.2.2.1 p1 4) 6) = (0 : Nat) → (o = (fun _ => .inl (some (.int (-1)))) ∧ K' = T3)))))))) ∧ ((K.2.2.1 p1 4) = (0 : Nat) → ∃ r13 T11, KC (D + 7) m_U_workAndLook (fun G => [.ref (cp_b G + 23), va_rf (kr G (K.2.2.1 p1 4)), .int (x2 + 1), .int x3]) K (fun _ => some (.int r13)) T11 ∧ ((¬ (r13 : Int32) = (-1) → ∃ r16 T14, KC (D + 7) m_U_workAndLook (fun G => [.ref (cp_b G + 23), va_rf (kr G 0), .int (x2 + 1), .int x3]) T11 (fun _ => some (.int r16)) T14 ∧ nd T14 p1 9 ∧ ((¬ ((T14.2.1 p1 0) : Int32) = 12 → ((0 = (0 : Nat) → (o = (fun _ => .inl (some (.int (-1)))) ∧ K' = T14)) ∧ (¬ 0 = (0 : Nat) → (((r16 : Int32) = (-1) → (o = (fun _ => .inl (some (.int (-1)))) ∧ K' = T14)) ∧ (¬ (r16 : Int32) = (-1) → JC (D + 8) m_U_choose o K' 101 (fun G => [(0, .ref (cp_b G + 23)), (1, va_rf (kr G p1)), (2, .int x2), (3, .int x3), (4, va_rf (kr G (K.2.2.1 p1 4))), (5, va_rf (kr G 0)), (6, .int r13), (7, .int r16), (8, .int 0)]) (fun _ => []) T14))))) ∧ (((T14.2.1 p1 0) : Int32) = 12 → ((0 = (0 : Nat) → (o = (fun _ => .inl (some (.int (-1)))) ∧ K' = T14)) ∧ (¬ 0 = (0 : Nat) → (((r16 : Int32) = (-1) → (o = (fun _ => .inl (some (.int (-1)))) ∧ K' = T14)) ∧ (¬ (r16 : Int32) = (-1) → ((¬ ((arn T14 r13 r16) : Int32) = 0 → JC (D + 8) m_U_choose o K' 101 (fun G => [(0, .ref (cp_b G + 23)), (1, va_rf (kr G p1)), (2, .int x2), (3, .int x3), (4, va_rf (kr G (K.2.2.1 p1 4))), (5, va_rf (kr G 0)), (6, .int r13), (7, .int r16), (8, .int 1)]) (fun _ => []) T14) ∧ (((arn T14 r13 r16) : Int32) = 0 → (o = (fun _ => .inl (some (.int (-1)))) ∧ K' = T14)))))))))) ∧ ((r13 : Int32) = (-1) → nd T11 p1 9 ∧ ((¬ ((T11.2.1 p1 0) : Int32) = 12 → ((0 = (0 : Nat) → (o = (fun _ => .inl (some (.int (-1)))) ∧ K' = T11)) ∧ (¬ 0 = (0 : Nat) → (o = (fun _ => .inl (some (.int (-1)))) ∧ K' = T11)))) ∧ (((T11.2.1 p1 0) : Int32) = 12 → ((0 = (0 : Nat) → (o = (fun _ => .inl (some (.int (-1)))) ∧ K' = T11)) ∧ (¬ 0 = (0 : Nat) → (o = (fun _ => .inl (some (.int (-1)))) ∧ K' = T11)))))))))
theorem b_U_choose_0 {D : Nat} {o : cp_G → cp_O} {K' K : cp_K} {p1 : Nat} {x2 : Int32} {x3 : Int32} (w : wp_U_choose_0 D o K' K p1 x2 x3) : JC (D + 8) m_U_choose o K' 0 (fun G => [(0, .ref (cp_b G + 23)), (1, va_rf (kr G p1)), (2, .int x2), (3, .int x3)]) (fun _ => []) K := by
  unfold wp_U_choose_0 at w
  intro G H d n0 z0 hd
  show kV G H m_U_choose d n0 z0 (o G) K' 0 [(0, .ref (cp_b G + 23)), (1, va_rf (kr G p1)), (2, .int x2), (3, .int x3)] [] K
  refine kv_p (fun _ _ _ _ _ _ v => vv_aload_nr (pc := 0) d_U_choose_0 (cp_isr_rf (kr G p1)) rfl v) ?_
  obtain ⟨b1, w⟩ := w
  refine kw_grN (pc := 1) d_U_choose_1 fl_U_61 b1 rfl rfl ?_
  refine kv_p (fun _ _ _ _ _ _ v => vv_astore (pc := 4) d_U_choose_4 (cp_isr_rf (kr G (K.2.2.1 p1 4))) (Nat.le_of_ble_eq_true rfl) v) ?_
  refine kv_p (fun _ _ _ _ _ _ v => vv_aloadr (pc := 6) d_U_choose_6 (cp_isr_rf (kr G (K.2.2.1 p1 4))) rfl v) ?_
  refine kw_ifnonnull (pc := 8) (tgt := 15) d_U_choose_8 rfl (fun hc => ?_) (fun hc => ?_)
  · replace w := w.1 hc
    refine kv_p (fun _ _ _ _ _ _ v => vv_aloadr (pc := 15) d_U_choose_15 (cp_isr_rf (kr G (K.2.2.1 p1 4))) rfl v) ?_
    obtain ⟨b2, w⟩ := w
    refine kw_grN (pc := 17) d_U_choose_17 fl_U_71 b2 rfl rfl ?_
    refine kv_p (fun _ _ _ _ _ _ v => vv_astore (pc := 20) d_U_choose_20 (cp_isr_rf (kr G (K.2.2.1 (K.2.2.1 p1 4) 6))) (Nat.le_of_ble_eq_true rfl) v) ?_
    refine kw_lv (lv := [(5, va_rf (kr G (K.2.2.1 (K.2.2.1 p1 4) 6))), (4, va_rf (kr G (K.2.2.1 p1 4))), (0, .ref (cp_b G + 23)), (1, va_rf (kr G p1)), (2, .int x2), (3, .int x3)]) (by cases kr G (K.2.2.1 p1 4) <;> rfl) ?_
    refine kv_p (fun _ _ _ _ _ _ v => vv_aload_n (pc := 22) d_U_choose_22 rfl v) ?_
    refine kv_p (fun _ _ _ _ _ _ v => vv_aloadr (pc := 23) d_U_choose_23 (cp_isr_rf (kr G (K.2.2.1 p1 4))) rfl v) ?_
    refine kv_p (fun _ _ _ _ _ _ v => vv_iload_n (pc := 25) d_U_choose_25 rfl v) ?_
    refine kv_p (fun _ _ _ _ _ _ v => vv_iconst (pc := 26) (v := 1) d_U_choose_26 rfl v) ?_
    refine kv_p (fun _ _ _ _ _ _ v => vv_iadd (pc := 27) d_U_choose_27 v) ?_
    refine kv_p (fun _ _ _ _ _ _ v => vv_iload_n (pc := 28) d_U_choose_28 rfl v) ?_
    obtain ⟨r5, T3, c4, w⟩ := w
    refine kw_cv (pc := 29) (As := [va_rf (kr G (K.2.2.1 p1 4)), .int (x2 + 1), .int x3]) d_U_choose_29 c4 rfl k_U_workAndLook ml_U_117 (Or.inl ⟨by decide, rfl⟩) (by omega) (Nat.le_of_ble_eq_true rfl) ?_
    refine kv_p (fun _ _ _ _ _ _ v => vv_istore (pc := 32) d_U_choose_32 (Nat.le_of_ble_eq_true rfl) v) ?_
    refine kw_lv (lv := [(6, .int r5), (5, va_rf (kr G (K.2.2.1 (K.2.2.1 p1 4) 6))), (4, va_rf (kr G (K.2.2.1 p1 4))), (0, .ref (cp_b G + 23)), (1, va_rf (kr G p1)), (2, .int x2), (3, .int x3)]) (by cases kr G (K.2.2.1 (K.2.2.1 p1 4) 6) <;> rfl) ?_
    refine kv_p (fun _ _ _ _ _ _ v => vv_iload (pc := 34) d_U_choose_34 rfl v) ?_
    refine kv_p (fun _ _ _ _ _ _ v => vv_iconst (pc := 36) (v := (-1)) d_U_choose_36 rfl v) ?_
    by_cases hc : (r5 : Int32) = (-1)
    · replace w := w.2 hc
      refine kv_p (fun _ _ _ _ _ _ v => vv_icmp_ne (pc := 37) (tgt := 44) d_U_choose_37 rfl (fun hn => absurd hc hn) (fun _ => v)) ?_
      refine kv_p (fun _ _ _ _ _ _ v => vv_iconst (pc := 40) (v := (-1)) d_U_choose_40 rfl v) ?_
      refine kv_p (fun _ _ _ _ _ _ v => vv_goto (pc := 41) (tgt := 54) d_U_choose_41 rfl v) ?_
      refine kv_p (fun _ _ _ _ _ _ v => vv_istore (pc := 54) d_U_choose_54 (Nat.le_of_ble_eq_true rfl) v) ?_
      refine kv_p (fun _ _ _ _ _ _ v => vv_aload_nr (pc := 56) d_U_choose_56 (cp_isr_rf (kr G p1)) rfl v) ?_
      obtain ⟨b10, w⟩ := w
      refine kw_giN (pc := 57) d_U_choose_57 fl_U_74 b10 rfl rfl ?_
      refine kv_p (fun _ _ _ _ _ _ v => vv_bipush (pc := 60) (v := 12) d_U_choose_60 rfl v) ?_
      by_cases hc : ((T3.2.1 p1 0) : Int32) = 12
      · replace w := w.2 hc
        refine kv_p (fun _ _ _ _ _ _ v => vv_icmp_ne (pc := 62) (tgt := 69) d_U_choose_62 rfl (fun hn => absurd hc hn) (fun _ => v)) ?_
        refine kv_p (fun _ _ _ _ _ _ v => vv_iconst (pc := 65) (v := 1) d_U_choose_65 rfl v) ?_
        refine kv_p (fun _ _ _ _ _ _ v => vv_goto (pc := 66) (tgt := 70) d_U_choose_66 rfl v) ?_
        refine kv_p (fun _ _ _ _ _ _ v => vv_istore (pc := 70) d_U_choose_70 (Nat.le_of_ble_eq_true rfl) v) ?_
        refine kv_p (fun _ _ _ _ _ _ v => vv_aloadr (pc := 72) d_U_choose_72 (cp_isr_rf (kr G (K.2.2.1 (K.2.2.1 p1 4) 6))) rfl v) ?_
        refine kw_ifnull (pc := 74) (tgt := 99) d_U_choose_74 rfl (fun hc => ?_) (fun hc => ?_)
        · replace w := w.1 hc
          refine kv_p (fun _ _ _ _ _ _ v => vv_iconst (pc := 99) (v := (-1)) d_U_choose_99 rfl v) ?_
          obtain ⟨rfl, rfl⟩ := w
          exact kv_e (fun _ _ => vv_iret (pc := 100) d_U_choose_100 rfl)
        · replace w := w.2 hc
          refine kv_p (fun _ _ _ _ _ _ v => vv_iload (pc := 77) d_U_choose_77 rfl v) ?_
          refine kv_p (fun _ _ _ _ _ _ v => vv_iconst (pc := 79) (v := (-1)) d_U_choose_79 rfl v) ?_
          refine kv_p (fun _ _ _ _ _ _ v => vv_icmp_eq (pc := 80) (tgt := 99) d_U_choose_80 rfl (fun _ => v) (fun hn => absurd (by decide) hn)) ?_
          refine kv_p (fun _ _ _ _ _ _ v => vv_iconst (pc := 99) (v := (-1)) d_U_choose_99 rfl v) ?_
          obtain ⟨rfl, rfl⟩ := w
          exact kv_e (fun _ _ => vv_iret (pc := 100) d_U_choose_100 rfl)
      · replace w := w.1 hc
        refine kv_p (fun _ _ _ _ _ _ v => vv_icmp_ne (pc := 62) (tgt := 69) d_U_choose_62 rfl (fun _ => v) (fun hn => absurd hn hc)) ?_
        refine kv_p (fun _ _ _ _ _ _ v => vv_iconst (pc := 69) (v := 0) d_U_choose_69 rfl v) ?_
        refine kv_p (fun _ _ _ _ _ _ v => vv_istore (pc := 70) d_U_choose_70 (Nat.le_of_ble_eq_true rfl) v) ?_
        refine kv_p (fun _ _ _ _ _ _ v => vv_aloadr (pc := 72) d_U_choose_72 (cp_isr_rf (kr G (K.2.2.1 (K.2.2.1 p1 4) 6))) rfl v) ?_
        refine kw_ifnull (pc := 74) (tgt := 99) d_U_choose_74 rfl (fun hc => ?_) (fun hc => ?_)
        · replace w := w.1 hc
          refine kv_p (fun _ _ _ _ _ _ v => vv_iconst (pc := 99) (v := (-1)) d_U_choose_99 rfl v) ?_
          obtain ⟨rfl, rfl⟩ := w
          exact kv_e (fun _ _ => vv_iret (pc := 100) d_U_choose_100 rfl)
        · replace w := w.2 hc
          refine kv_p (fun _ _ _ _ _ _ v => vv_iload (pc := 77) d_U_choose_77 rfl v) ?_
          refine kv_p (fun _ _ _ _ _ _ v => vv_iconst (pc := 79) (v := (-1)) d_U_choose_79 rfl v) ?_
          refine kv_p (fun _ _ _ _ _ _ v => vv_icmp_eq (pc := 80) (tgt := 99) d_U_choose_80 rfl (fun _ => v) (fun hn => absurd (by decide) hn)) ?_
          refine kv_p (fun _ _ _ _ _ _ v => vv_iconst (pc := 99) (v := (-1)) d_U_choose_99 rfl v) ?_
          obtain ⟨rfl, rfl⟩ := w
          exact kv_e (fun _ _ => vv_iret (pc := 100) d_U_choose_100 rfl)
    · replace w := w.1 hc
      refine kv_p (fun _ _ _ _ _ _ v => vv_icmp_ne (pc := 37) (tgt := 44) d_U_choose_37 rfl (fun _ => v) (fun hn => absurd hn hc)) ?_
      refine kv_p (fun _ _ _ _ _ _ v => vv_aload_n (pc := 44) d_U_choose_44 rfl v) ?_
      refine kv_p (fun _ _ _ _ _ _ v => vv_aloadr (pc := 45) d_U_choose_45 (cp_isr_rf (kr G (K.2.2.1 (K.2.2.1 p1 4) 6))) rfl v) ?_
      refine kv_p (fun _ _ _ _ _ _ v => vv_iload_n (pc := 47) d_U_choose_47 rfl v) ?_
      refine kv_p (fun _ _ _ _ _ _ v => vv_iconst (pc := 48) (v := 1) d_U_choose_48 rfl v) ?_
      refine kv_p (fun _ _ _ _ _ _ v => vv_iadd (pc := 49) d_U_choose_49 v) ?_
      refine kv_p (fun _ _ _ _ _ _ v => vv_iload_n (pc := 50) d_U_choose_50 rfl v) ?_
      obtain ⟨r8, T6, c7, w⟩ := w
      refine kw_cv (pc := 51) (As := [va_rf (kr G (K.2.2.1 (K.2.2.1 p1 4) 6)), .int (x2 + 1), .int x3]) d_U_choose_51 c7 rfl k_U_workAndLook ml_U_117 (Or.inl ⟨by decide, rfl⟩) (by omega) (Nat.le_of_ble_eq_true rfl) ?_
      refine kv_p (fun _ _ _ _ _ _ v => vv_istore (pc := 54) d_U_choose_54 (Nat.le_of_ble_eq_true rfl) v) ?_
      refine kv_p (fun _ _ _ _ _ _ v => vv_aload_nr (pc := 56) d_U_choose_56 (cp_isr_rf (kr G p1)) rfl v) ?_
      obtain ⟨b9, w⟩ := w
      refine kw_giN (pc := 57) d_U_choose_57 fl_U_74 b9 rfl rfl ?_
      refine kv_p (fun _ _ _ _ _ _ v => vv_bipush (pc := 60) (v := 12) d_U_choose_60 rfl v) ?_
      by_cases hc : ((T6.2.1 p1 0) : Int32) = 12
      · replace w := w.2 hc
        refine kv_p (fun _ _ _ _ _ _ v => vv_icmp_ne (pc := 62) (tgt := 69) d_U_choose_62 rfl (fun hn => absurd hc hn) (fun _ => v)) ?_
        refine kv_p (fun _ _ _ _ _ _ v => vv_iconst (pc := 65) (v := 1) d_U_choose_65 rfl v) ?_
        refine kv_p (fun _ _ _ _ _ _ v => vv_goto (pc := 66) (tgt := 70) d_U_choose_66 rfl v) ?_
        refine kv_p (fun _ _ _ _ _ _ v => vv_istore (pc := 70) d_U_choose_70 (Nat.le_of_ble_eq_true rfl) v) ?_
        refine kv_p (fun _ _ _ _ _ _ v => vv_aloadr (pc := 72) d_U_choose_72 (cp_isr_rf (kr G (K.2.2.1 (K.2.2.1 p1 4) 6))) rfl v) ?_
        refine kw_ifnull (pc := 74) (tgt := 99) d_U_choose_74 rfl (fun hc => ?_) (fun hc => ?_)
        · replace w := w.1 hc
          refine kv_p (fun _ _ _ _ _ _ v => vv_iconst (pc := 99) (v := (-1)) d_U_choose_99 rfl v) ?_
          obtain ⟨rfl, rfl⟩ := w
          exact kv_e (fun _ _ => vv_iret (pc := 100) d_U_choose_100 rfl)
        · replace w := w.2 hc
          refine kv_p (fun _ _ _ _ _ _ v => vv_iload (pc := 77) d_U_choose_77 rfl v) ?_
          refine kv_p (fun _ _ _ _ _ _ v => vv_iconst (pc := 79) (v := (-1)) d_U_choose_79 rfl v) ?_
          by_cases hc : (r8 : Int32) = (-1)
          · replace w := w.1 hc
            refine kv_p (fun _ _ _ _ _ _ v => vv_icmp_eq (pc := 80) (tgt := 99) d_U_choose_80 rfl (fun _ => v) (fun hn => absurd hc hn)) ?_
            refine kv_p (fun _ _ _ _ _ _ v => vv_iconst (pc := 99) (v := (-1)) d_U_choose_99 rfl v) ?_
            obtain ⟨rfl, rfl⟩ := w
            exact kv_e (fun _ _ => vv_iret (pc := 100) d_U_choose_100 rfl)
          · replace w := w.2 hc
            refine kv_p (fun _ _ _ _ _ _ v => vv_icmp_eq (pc := 80) (tgt := 99) d_U_choose_80 rfl (fun hn => absurd hn hc) (fun _ => v)) ?_
            refine kv_p (fun _ _ _ _ _ _ v => vv_iload (pc := 83) d_U_choose_83 rfl v) ?_
            refine kv_p (fun _ _ _ _ _ _ v => vv_if_eq (pc := 85) (tgt := 101) d_U_choose_85 rfl (fun hn => absurd hn (by decide)) (fun _ => v)) ?_
            refine kv_p (fun _ _ _ _ _ _ v => vv_aload_n (pc := 88) d_U_choose_88 rfl v) ?_
            refine kv_p (fun _ _ _ _ _ _ v => vv_iload (pc := 89) d_U_choose_89 rfl v) ?_
            refine kv_p (fun _ _ _ _ _ _ v => vv_iload (pc := 91) d_U_choose_91 rfl v) ?_
            refine kw_cv (pc := 93) (As := [.int r5, .int r8]) (As0 := (fun G => [.ref (cp_b G + 23), .int r5, .int r8])) d_U_choose_93 (C_UareNumbers) rfl k_U_areNumbers ml_U_120 (Or.inl ⟨by decide, rfl⟩) (by omega) (Nat.le_of_ble_eq_true rfl) ?_
            by_cases hc : ((arn T6 r5 r8) : Int32) = 0
            · replace w := w.2 hc
              refine kv_p (fun _ _ _ _ _ _ v => vv_if_ne (pc := 96) (tgt := 101) d_U_choose_96 rfl (fun hn => absurd hc hn) (fun _ => v)) ?_
              refine kv_p (fun _ _ _ _ _ _ v => vv_iconst (pc := 99) (v := (-1)) d_U_choose_99 rfl v) ?_
              obtain ⟨rfl, rfl⟩ := w
              exact kv_e (fun _ _ => vv_iret (pc := 100) d_U_choose_100 rfl)
            · replace w := w.1 hc
              refine kv_p (fun _ _ _ _ _ _ v => vv_if_ne (pc := 96) (tgt := 101) d_U_choose_96 rfl (fun _ => v) (fun hn => absurd hn hc)) ?_
              exact kw_sub [5, 6, 7, 8, 4, 3, 2, 1, 0] rfl (w G H d n0 z0 hd)
      · replace w := w.1 hc
        refine kv_p (fun _ _ _ _ _ _ v => vv_icmp_ne (pc := 62) (tgt := 69) d_U_choose_62 rfl (fun _ => v) (fun hn => absurd hn hc)) ?_
        refine kv_p (fun _ _ _ _ _ _ v => vv_iconst (pc := 69) (v := 0) d_U_choose_69 rfl v) ?_
        refine kv_p (fun _ _ _ _ _ _ v => vv_istore (pc := 70) d_U_choose_70 (Nat.le_of_ble_eq_true rfl) v) ?_
        refine kv_p (fun _ _ _ _ _ _ v => vv_aloadr (pc := 72) d_U_choose_72 (cp_isr_rf (kr G (K.2.2.1 (K.2.2.1 p1 4) 6))) rfl v) ?_
        refine kw_ifnull (pc := 74) (tgt := 99) d_U_choose_74 rfl (fun hc => ?_) (fun hc => ?_)
        · replace w := w.1 hc
          refine kv_p (fun _ _ _ _ _ _ v => vv_iconst (pc := 99) (v := (-1)) d_U_choose_99 rfl v) ?_
          obtain ⟨rfl, rfl⟩ := w
          exact kv_e (fun _ _ => vv_iret (pc := 100) d_U_choose_100 rfl)
        · replace w := w.2 hc
          refine kv_p (fun _ _ _ _ _ _ v => vv_iload (pc := 77) d_U_choose_77 rfl v) ?_
          refine kv_p (fun _ _ _ _ _ _ v => vv_iconst (pc := 79) (v := (-1)) d_U_choose_79 rfl v) ?_
          by_cases hc : (r8 : Int32) = (-1)
          · replace w := w.1 hc
            refine kv_p (fun _ _ _ _ _ _ v => vv_icmp_eq (pc := 80) (tgt := 99) d_U_choose_80 rfl (fun _ => v) (fun hn => absurd hc hn)) ?_
            refine kv_p (fun _ _ _ _ _ _ v => vv_iconst (pc := 99) (v := (-1)) d_U_choose_99 rfl v) ?_
            obtain ⟨rfl, rfl⟩ := w
            exact kv_e (fun _ _ => vv_iret (pc := 100) d_U_choose_100 rfl)
          · replace w := w.2 hc
            refine kv_p (fun _ _ _ _ _ _ v => vv_icmp_eq (pc := 80) (tgt := 99) d_U_choose_80 rfl (fun hn => absurd hn hc) (fun _ => v)) ?_
            refine kv_p (fun _ _ _ _ _ _ v => vv_iload (pc := 83) d_U_choose_83 rfl v) ?_
            refine kv_p (fun _ _ _ _ _ _ v => vv_if_eq (pc := 85) (tgt := 101) d_U_choose_85 rfl (fun _ => v) (fun hn => absurd (by decide) hn)) ?_
            exact kw_sub [5, 6, 7, 8, 4, 3, 2, 1, 0] rfl (w G H d n0 z0 hd)
  · replace w := w.2 hc
    refine kw_null (pc := 11) d_U_choose_11 ?_
    refine kv_p (fun _ _ _ _ _ _ v => vv_goto (pc := 12) (tgt := 20) d_U_choose_12 rfl v) ?_
    refine kv_p (fun _ _ _ _ _ _ v => vv_astore (pc := 20) d_U_choose_20 (cp_isr_rf (kr G 0)) (Nat.le_of_ble_eq_true rfl) v) ?_
    refine kw_lv (lv := [(5, va_rf (kr G 0)), (4, va_rf (kr G (K.2.2.1 p1 4))), (0, .ref (cp_b G + 23)), (1, va_rf (kr G p1)), (2, .int x2), (3, .int x3)]) (by cases kr G (K.2.2.1 p1 4) <;> rfl) ?_
    refine kv_p (fun _ _ _ _ _ _ v => vv_aload_n (pc := 22) d_U_choose_22 rfl v) ?_
    refine kv_p (fun _ _ _ _ _ _ v => vv_aloadr (pc := 23) d_U_choose_23 (cp_isr_rf (kr G (K.2.2.1 p1 4))) rfl v) ?_
    refine kv_p (fun _ _ _ _ _ _ v => vv_iload_n (pc := 25) d_U_choose_25 rfl v) ?_
    refine kv_p (fun _ _ _ _ _ _ v => vv_iconst (pc := 26) (v := 1) d_U_choose_26 rfl v) ?_
    refine kv_p (fun _ _ _ _ _ _ v => vv_iadd (pc := 27) d_U_choose_27 v) ?_
    refine kv_p (fun _ _ _ _ _ _ v => vv_iload_n (pc := 28) d_U_choose_28 rfl v) ?_
    obtain ⟨r13, T11, c12, w⟩ := w
    refine kw_cv (pc := 29) (As := [va_rf (kr G (K.2.2.1 p1 4)), .int (x2 + 1), .int x3]) d_U_choose_29 c12 rfl k_U_workAndLook ml_U_117 (Or.inl ⟨by decide, rfl⟩) (by omega) (Nat.le_of_ble_eq_true rfl) ?_
    refine kv_p (fun _ _ _ _ _ _ v => vv_istore (pc := 32) d_U_choose_32 (Nat.le_of_ble_eq_true rfl) v) ?_
    refine kw_lv (lv := [(6, .int r13), (5, va_rf (kr G 0)), (4, va_rf (kr G (K.2.2.1 p1 4))), (0, .ref (cp_b G + 23)), (1, va_rf (kr G p1)), (2, .int x2), (3, .int x3)]) (by cases kr G 0 <;> rfl) ?_
    refine kv_p (fun _ _ _ _ _ _ v => vv_iload (pc := 34) d_U_choose_34 rfl v) ?_
    refine kv_p (fun _ _ _ _ _ _ v => vv_iconst (pc := 36) (v := (-1)) d_U_choose_36 rfl v) ?_
    by_cases hc : (r13 : Int32) = (-1)
    · replace w := w.2 hc
      refine kv_p (fun _ _ _ _ _ _ v => vv_icmp_ne (pc := 37) (tgt := 44) d_U_choose_37 rfl (fun hn => absurd hc hn) (fun _ => v)) ?_
      refine kv_p (fun _ _ _ _ _ _ v => vv_iconst (pc := 40) (v := (-1)) d_U_choose_40 rfl v) ?_
      refine kv_p (fun _ _ _ _ _ _ v => vv_goto (pc := 41) (tgt := 54) d_U_choose_41 rfl v) ?_
      refine kv_p (fun _ _ _ _ _ _ v => vv_istore (pc := 54) d_U_choose_54 (Nat.le_of_ble_eq_true rfl) v) ?_
      refine kv_p (fun _ _ _ _ _ _ v => vv_aload_nr (pc := 56) d_U_choose_56 (cp_isr_rf (kr G p1)) rfl v) ?_
      obtain ⟨b18, w⟩ := w
      refine kw_giN (pc := 57) d_U_choose_57 fl_U_74 b18 rfl rfl ?_
      refine kv_p (fun _ _ _ _ _ _ v => vv_bipush (pc := 60) (v := 12) d_U_choose_60 rfl v) ?_
      by_cases hc : ((T11.2.1 p1 0) : Int32) = 12
      · replace w := w.2 hc
        refine kv_p (fun _ _ _ _ _ _ v => vv_icmp_ne (pc := 62) (tgt := 69) d_U_choose_62 rfl (fun hn => absurd hc hn) (fun _ => v)) ?_
        refine kv_p (fun _ _ _ _ _ _ v => vv_iconst (pc := 65) (v := 1) d_U_choose_65 rfl v) ?_
        refine kv_p (fun _ _ _ _ _ _ v => vv_goto (pc := 66) (tgt := 70) d_U_choose_66 rfl v) ?_
        refine kv_p (fun _ _ _ _ _ _ v => vv_istore (pc := 70) d_U_choose_70 (Nat.le_of_ble_eq_true rfl) v) ?_
        refine kv_p (fun _ _ _ _ _ _ v => vv_aloadr (pc := 72) d_U_choose_72 (cp_isr_rf (kr G 0)) rfl v) ?_
        refine kw_ifnull (pc := 74) (tgt := 99) d_U_choose_74 rfl (fun hc => ?_) (fun hc => ?_)
        · replace w := w.1 hc
          refine kv_p (fun _ _ _ _ _ _ v => vv_iconst (pc := 99) (v := (-1)) d_U_choose_99 rfl v) ?_
          obtain ⟨rfl, rfl⟩ := w
          exact kv_e (fun _ _ => vv_iret (pc := 100) d_U_choose_100 rfl)
        · replace w := w.2 hc
          refine kv_p (fun _ _ _ _ _ _ v => vv_iload (pc := 77) d_U_choose_77 rfl v) ?_
          refine kv_p (fun _ _ _ _ _ _ v => vv_iconst (pc := 79) (v := (-1)) d_U_choose_79 rfl v) ?_
          refine kv_p (fun _ _ _ _ _ _ v => vv_icmp_eq (pc := 80) (tgt := 99) d_U_choose_80 rfl (fun _ => v) (fun hn => absurd (by decide) hn)) ?_
          refine kv_p (fun _ _ _ _ _ _ v => vv_iconst (pc := 99) (v := (-1)) d_U_choose_99 rfl v) ?_
          obtain ⟨rfl, rfl⟩ := w
          exact kv_e (fun _ _ => vv_iret (pc := 100) d_U_choose_100 rfl)
      · replace w := w.1 hc
        refine kv_p (fun _ _ _ _ _ _ v => vv_icmp_ne (pc := 62) (tgt := 69) d_U_choose_62 rfl (fun _ => v) (fun hn => absurd hn hc)) ?_
        refine kv_p (fun _ _ _ _ _ _ v => vv_iconst (pc := 69) (v := 0) d_U_choose_69 rfl v) ?_
        refine kv_p (fun _ _ _ _ _ _ v => vv_istore (pc := 70) d_U_choose_70 (Nat.le_of_ble_eq_true rfl) v) ?_
        refine kv_p (fun _ _ _ _ _ _ v => vv_aloadr (pc := 72) d_U_choose_72 (cp_isr_rf (kr G 0)) rfl v) ?_
        refine kw_ifnull (pc := 74) (tgt := 99) d_U_choose_74 rfl (fun hc => ?_) (fun hc => ?_)
        · replace w := w.1 hc
          refine kv_p (fun _ _ _ _ _ _ v => vv_iconst (pc := 99) (v := (-1)) d_U_choose_99 rfl v) ?_
          obtain ⟨rfl, rfl⟩ := w
          exact kv_e (fun _ _ => vv_iret (pc := 100) d_U_choose_100 rfl)
        · replace w := w.2 hc
          refine kv_p (fun _ _ _ _ _ _ v => vv_iload (pc := 77) d_U_choose_77 rfl v) ?_
          refine kv_p (fun _ _ _ _ _ _ v => vv_iconst (pc := 79) (v := (-1)) d_U_choose_79 rfl v) ?_
          refine kv_p (fun _ _ _ _ _ _ v => vv_icmp_eq (pc := 80) (tgt := 99) d_U_choose_80 rfl (fun _ => v) (fun hn => absurd (by decide) hn)) ?_
          refine kv_p (fun _ _ _ _ _ _ v => vv_iconst (pc := 99) (v := (-1)) d_U_choose_99 rfl v) ?_
          obtain ⟨rfl, rfl⟩ := w
          exact kv_e (fun _ _ => vv_iret (pc := 100) d_U_choose_100 rfl)
    · replace w := w.1 hc
      refine kv_p (fun _ _ _ _ _ _ v => vv_icmp_ne (pc := 37) (tgt := 44) d_U_choose_37 rfl (fun _ => v) (fun hn => absurd hn hc)) ?_
      refine kv_p (fun _ _ _ _ _ _ v => vv_aload_n (pc := 44) d_U_choose_44 rfl v) ?_
      refine kv_p (fun _ _ _ _ _ _ v => vv_aloadr (pc := 45) d_U_choose_45 (cp_isr_rf (kr G 0)) rfl v) ?_
      refine kv_p (fun _ _ _ _ _ _ v => vv_iload_n (pc := 47) d_U_choose_47 rfl v) ?_
      refine kv_p (fun _ _ _ _ _ _ v => vv_iconst (pc := 48) (v := 1) d_U_choose_48 rfl v) ?_
      refine kv_p (fun _ _ _ _ _ _ v => vv_iadd (pc := 49) d_U_choose_49 v) ?_
      refine kv_p (fun _ _ _ _ _ _ v => vv_iload_n (pc := 50) d_U_choose_50 rfl v) ?_
      obtain ⟨r16, T14, c15, w⟩ := w
      refine kw_cv (pc := 51) (As := [va_rf (kr G 0), .int (x2 + 1), .int x3]) d_U_choose_51 c15 rfl k_U_workAndLook ml_U_117 (Or.inl ⟨by decide, rfl⟩) (by omega) (Nat.le_of_ble_eq_true rfl) ?_
      refine kv_p (fun _ _ _ _ _ _ v => vv_istore (pc := 54) d_U_choose_54 (Nat.le_of_ble_eq_true rfl) v) ?_
      refine kv_p (fun _ _ _ _ _ _ v => vv_aload_nr (pc := 56) d_U_choose_56 (cp_isr_rf (kr G p1)) rfl v) ?_
      obtain ⟨b17, w⟩ := w
      refine kw_giN (pc := 57) d_U_choose_57 fl_U_74 b17 rfl rfl ?_
      refine kv_p (fun _ _ _ _ _ _ v => vv_bipush (pc := 60) (v := 12) d_U_choose_60 rfl v) ?_
      by_cases hc : ((T14.2.1 p1 0) : Int32) = 12
      · replace w := w.2 hc
        refine kv_p (fun _ _ _ _ _ _ v => vv_icmp_ne (pc := 62) (tgt := 69) d_U_choose_62 rfl (fun hn => absurd hc hn) (fun _ => v)) ?_
        refine kv_p (fun _ _ _ _ _ _ v => vv_iconst (pc := 65) (v := 1) d_U_choose_65 rfl v) ?_
        refine kv_p (fun _ _ _ _ _ _ v => vv_goto (pc := 66) (tgt := 70) d_U_choose_66 rfl v) ?_
        refine kv_p (fun _ _ _ _ _ _ v => vv_istore (pc := 70) d_U_choose_70 (Nat.le_of_ble_eq_true rfl) v) ?_
        refine kv_p (fun _ _ _ _ _ _ v => vv_aloadr (pc := 72) d_U_choose_72 (cp_isr_rf (kr G 0)) rfl v) ?_
        refine kw_ifnull (pc := 74) (tgt := 99) d_U_choose_74 rfl (fun hc => ?_) (fun hc => ?_)
        · replace w := w.1 hc
          refine kv_p (fun _ _ _ _ _ _ v => vv_iconst (pc := 99) (v := (-1)) d_U_choose_99 rfl v) ?_
          obtain ⟨rfl, rfl⟩ := w
          exact kv_e (fun _ _ => vv_iret (pc := 100) d_U_choose_100 rfl)
        · replace w := w.2 hc
          refine kv_p (fun _ _ _ _ _ _ v => vv_iload (pc := 77) d_U_choose_77 rfl v) ?_
          refine kv_p (fun _ _ _ _ _ _ v => vv_iconst (pc := 79) (v := (-1)) d_U_choose_79 rfl v) ?_
          by_cases hc : (r16 : Int32) = (-1)
          · replace w := w.1 hc
            refine kv_p (fun _ _ _ _ _ _ v => vv_icmp_eq (pc := 80) (tgt := 99) d_U_choose_80 rfl (fun _ => v) (fun hn => absurd hc hn)) ?_
            refine kv_p (fun _ _ _ _ _ _ v => vv_iconst (pc := 99) (v := (-1)) d_U_choose_99 rfl v) ?_
            obtain ⟨rfl, rfl⟩ := w
            exact kv_e (fun _ _ => vv_iret (pc := 100) d_U_choose_100 rfl)
          · replace w := w.2 hc
            refine kv_p (fun _ _ _ _ _ _ v => vv_icmp_eq (pc := 80) (tgt := 99) d_U_choose_80 rfl (fun hn => absurd hn hc) (fun _ => v)) ?_
            refine kv_p (fun _ _ _ _ _ _ v => vv_iload (pc := 83) d_U_choose_83 rfl v) ?_
            refine kv_p (fun _ _ _ _ _ _ v => vv_if_eq (pc := 85) (tgt := 101) d_U_choose_85 rfl (fun hn => absurd hn (by decide)) (fun _ => v)) ?_
            refine kv_p (fun _ _ _ _ _ _ v => vv_aload_n (pc := 88) d_U_choose_88 rfl v) ?_
            refine kv_p (fun _ _ _ _ _ _ v => vv_iload (pc := 89) d_U_choose_89 rfl v) ?_
            refine kv_p (fun _ _ _ _ _ _ v => vv_iload (pc := 91) d_U_choose_91 rfl v) ?_
            refine kw_cv (pc := 93) (As := [.int r13, .int r16]) (As0 := (fun G => [.ref (cp_b G + 23), .int r13, .int r16])) d_U_choose_93 (C_UareNumbers) rfl k_U_areNumbers ml_U_120 (Or.inl ⟨by decide, rfl⟩) (by omega) (Nat.le_of_ble_eq_true rfl) ?_
            by_cases hc : ((arn T14 r13 r16) : Int32) = 0
            · replace w := w.2 hc
              refine kv_p (fun _ _ _ _ _ _ v => vv_if_ne (pc := 96) (tgt := 101) d_U_choose_96 rfl (fun hn => absurd hc hn) (fun _ => v)) ?_
              refine kv_p (fun _ _ _ _ _ _ v => vv_iconst (pc := 99) (v := (-1)) d_U_choose_99 rfl v) ?_
              obtain ⟨rfl, rfl⟩ := w
              exact kv_e (fun _ _ => vv_iret (pc := 100) d_U_choose_100 rfl)
            · replace w := w.1 hc
              refine kv_p (fun _ _ _ _ _ _ v => vv_if_ne (pc := 96) (tgt := 101) d_U_choose_96 rfl (fun _ => v) (fun hn => absurd hn hc)) ?_
              exact kw_sub [5, 6, 7, 8, 4, 3, 2, 1, 0] rfl (w G H d n0 z0 hd)
      · replace w := w.1 hc
        refine kv_p (fun _ _ _ _ _ _ v => vv_icmp_ne (pc := 62) (tgt := 69) d_U_choose_62 rfl (fun _ => v) (fun hn => absurd hn hc)) ?_
        refine kv_p (fun _ _ _ _ _ _ v => vv_iconst (pc := 69) (v := 0) d_U_choose_69 rfl v) ?_
        refine kv_p (fun _ _ _ _ _ _ v => vv_istore (pc := 70) d_U_choose_70 (Nat.le_of_ble_eq_true rfl) v) ?_
        refine kv_p (fun _ _ _ _ _ _ v => vv_aloadr (pc := 72) d_U_choose_72 (cp_isr_rf (kr G 0)) rfl v) ?_
        refine kw_ifnull (pc := 74) (tgt := 99) d_U_choose_74 rfl (fun hc => ?_) (fun hc => ?_)
        · replace w := w.1 hc
          refine kv_p (fun _ _ _ _ _ _ v => vv_iconst (pc := 99) (v := (-1)) d_U_choose_99 rfl v) ?_
          obtain ⟨rfl, rfl⟩ := w
          exact kv_e (fun _ _ => vv_iret (pc := 100) d_U_choose_100 rfl)
        · replace w := w.2 hc
          refine kv_p (fun _ _ _ _ _ _ v => vv_iload (pc := 77) d_U_choose_77 rfl v) ?_
          refine kv_p (fun _ _ _ _ _ _ v => vv_iconst (pc := 79) (v := (-1)) d_U_choose_79 rfl v) ?_
          by_cases hc : (r16 : Int32) = (-1)
          · replace w := w.1 hc
            refine kv_p (fun _ _ _ _ _ _ v => vv_icmp_eq (pc := 80) (tgt := 99) d_U_choose_80 rfl (fun _ => v) (fun hn => absurd hc hn)) ?_
            refine kv_p (fun _ _ _ _ _ _ v => vv_iconst (pc := 99) (v := (-1)) d_U_choose_99 rfl v) ?_
            obtain ⟨rfl, rfl⟩ := w
            exact kv_e (fun _ _ => vv_iret (pc := 100) d_U_choose_100 rfl)
          · replace w := w.2 hc
            refine kv_p (fun _ _ _ _ _ _ v => vv_icmp_eq (pc := 80) (tgt := 99) d_U_choose_80 rfl (fun hn => absurd hn hc) (fun _ => v)) ?_
            refine kv_p (fun _ _ _ _ _ _ v => vv_iload (pc := 83) d_U_choose_83 rfl v) ?_
            refine kv_p (fun _ _ _ _ _ _ v => vv_if_eq (pc := 85) (tgt := 101) d_U_choose_85 rfl (fun _ => v) (fun hn => absurd (by decide) hn)) ?_
            exact kw_sub [5, 6, 7, 8, 4, 3, 2, 1, 0] rfl (w G H d n0 z0 hd)
theorem c_U_choose {D : Nat} {o : cp_G → Option Value} {K' K : cp_K} {p1 : Nat} {x2 : Int32} {x3 : Int32} (w : wp_U_choose_0 D (fun G => .inl (o G)) K' K p1 x2 x3) : KC (D + 8) m_U_choose (fun G => [.ref (cp_b G + 23), va_rf (kr G p1), .int x2, .int x3]) K o K' := KC.of2 rfl (fun G => by cases kr G p1 <;> exact ⟨Nat.le_of_ble_eq_true rfl, rfl⟩) (b_U_choose_0 w)
def wp_U_choose_101 (D : Nat) (o : cp_G → cp_O) (K' K : cp_K) (p1 : Nat) (x2 : Int32) (x3 : Int32) (p4 : Nat) (p5 : Nat) (x6 : Int32) (x7 : Int32) (x8 : Int32) : Prop := (((x8 : Int32) = 0 → ∃ r3 T1, KC (D + 7) m_V_compare (fun G => [.ref (cp_b G + 6), .int x6, .int x7]) K (fun _ => some (.int r3)) T1 ∧ ((¬ (r3 : Int32) = (-1) → ((¬ (r3 : Int32) = 1 → nd T1 p1 9 ∧ ∃ r7 T5, KC (D + 7) m_U_work (fun G => [.ref (cp_b G + 23), va_rf (kr G (T1.2.2.1 p1 5)), .int (x2 + 1), .int x3]) T1 (fun _ => some (.int r7)) T5 ∧ (o = (fun _ => .inl (some (.int r7))) ∧ K' = T5)) ∧ ((r3 : Int32) = 1 → nd T1 p5 9 ∧ ∃ r11 T9, KC (D + 7) m_U_work (fun G => [.ref (cp_b G + 23), va_rf (kr G (T1.2.2.1 p5 6)), .int (x2 + 1), .int x3]) T1 (fun _ => some (.int r11)) T9 ∧ (o = (fun _ => .inl (some (.int r11))) ∧ K' = T9)))) ∧ ((r3 : Int32) = (-1) → (o = (fun _ => .inl (some (.int (-1)))) ∧ K' = T1)))) ∧ (¬ (x8 : Int32) = 0 → ((¬ ((if rget K 7 (x7 + 1) ≤ rget K 7 (x6 + 1) then 0 else 1) : Int32) = (-1) → ((¬ ((if rget K 7 (x7 + 1) ≤ rget K 7 (x6 + 1) then 0 else 1) : Int32) = 1 → nd K p1 9 ∧ ∃ r15 T13, KC (D + 7) m_U_work (fun G => [.ref (cp_b G + 23), va_rf (kr G (K.2.2.1 p1 5)), .int (x2 + 1), .int x3]) K (fun _ => some (.int r15)) T13 ∧ (o = (fun _ => .inl (some (.int r15))) ∧ K' = T13)) ∧ (((if rget K 7 (x7 + 1) ≤ rget K 7 (x6 + 1) then 0 else 1) : Int32) = 1 → nd K p5 9 ∧ ∃ r19 T17, KC (D + 7) m_U_work (fun G => [.ref (cp_b G + 23), va_rf (kr G (K.2.2.1 p5 6)), .int (x2 + 1), .int x3]) K (fun _ => some (.int r19)) T17 ∧ (o = (fun _ => .inl (some (.int r19))) ∧ K' = T17)))) ∧ (((if rget K 7 (x7 + 1) ≤ rget K 7 (x6 + 1) then 0 else 1) : Int32) = (-1) → (o = (fun _ => .inl (some (.int (-1)))) ∧ K' = K)))))
theorem b_U_choose_101 {D : Nat} {o : cp_G → cp_O} {K' K : cp_K} {p1 : Nat} {x2 : Int32} {x3 : Int32} {p4 : Nat} {p5 : Nat} {x6 : Int32} {x7 : Int32} {x8 : Int32} (w : wp_U_choose_101 D o K' K p1 x2 x3 p4 p5 x6 x7 x8) : JC (D + 8) m_U_choose o K' 101 (fun G => [(0, .ref (cp_b G + 23)), (1, va_rf (kr G p1)), (2, .int x2), (3, .int x3), (4, va_rf (kr G p4)), (5, va_rf (kr G p5)), (6, .int x6), (7, .int x7), (8, .int x8)]) (fun _ => []) K := by
  unfold wp_U_choose_101 at w
  intro G H d n0 z0 hd
  show kV G H m_U_choose d n0 z0 (o G) K' 101 [(0, .ref (cp_b G + 23)), (1, va_rf (kr G p1)), (2, .int x2), (3, .int x3), (4, va_rf (kr G p4)), (5, va_rf (kr G p5)), (6, .int x6), (7, .int x7), (8, .int x8)] [] K
  refine kv_p (fun _ _ _ _ _ _ v => vv_iload (pc := 101) d_U_choose_101 rfl v) ?_
  by_cases hc : (x8 : Int32) = 0
  · replace w := w.1 hc
    refine kv_p (fun _ _ _ _ _ _ v => vv_if_eq (pc := 103) (tgt := 117) d_U_choose_103 rfl (fun _ => v) (fun hn => absurd hc hn)) ?_
    refine kv_p (fun _ _ _ _ _ _ v => vv_aload_n (pc := 117) d_U_choose_117 rfl v) ?_
    refine kw_gf (pc := 118) 6 d_U_choose_118 fl_U_15 (Or.inl ⟨by decide, rfl⟩) rfl (by decide) ?_
    refine kv_p (fun _ _ _ _ _ _ v => vv_iload (pc := 121) d_U_choose_121 rfl v) ?_
    refine kv_p (fun _ _ _ _ _ _ v => vv_iload (pc := 123) d_U_choose_123 rfl v) ?_
    obtain ⟨r3, T1, c2, w⟩ := w
    refine kw_cv (pc := 125) (As := [.int x6, .int x7]) d_U_choose_125 c2 rfl k_V_compare ml_U_152 (Or.inl ⟨by decide, rfl⟩) (by omega) (Nat.le_of_ble_eq_true rfl) ?_
    refine kv_p (fun _ _ _ _ _ _ v => vv_istore (pc := 128) d_U_choose_128 (Nat.le_of_ble_eq_true rfl) v) ?_
    refine kv_p (fun _ _ _ _ _ _ v => vv_iload (pc := 130) d_U_choose_130 rfl v) ?_
    refine kv_p (fun _ _ _ _ _ _ v => vv_iconst (pc := 132) (v := (-1)) d_U_choose_132 rfl v) ?_
    by_cases hc : (r3 : Int32) = (-1)
    · replace w := w.2 hc
      refine kv_p (fun _ _ _ _ _ _ v => vv_icmp_ne (pc := 133) (tgt := 138) d_U_choose_133 rfl (fun hn => absurd hc hn) (fun _ => v)) ?_
      refine kv_p (fun _ _ _ _ _ _ v => vv_iconst (pc := 136) (v := (-1)) d_U_choose_136 rfl v) ?_
      obtain ⟨rfl, rfl⟩ := w
      exact kv_e (fun _ _ => vv_iret (pc := 137) d_U_choose_137 rfl)
    · replace w := w.1 hc
      refine kv_p (fun _ _ _ _ _ _ v => vv_icmp_ne (pc := 133) (tgt := 138) d_U_choose_133 rfl (fun _ => v) (fun hn => absurd hn hc)) ?_
      refine kv_p (fun _ _ _ _ _ _ v => vv_aload_n (pc := 138) d_U_choose_138 rfl v) ?_
      refine kv_p (fun _ _ _ _ _ _ v => vv_iload (pc := 139) d_U_choose_139 rfl v) ?_
      refine kv_p (fun _ _ _ _ _ _ v => vv_iconst (pc := 141) (v := 1) d_U_choose_141 rfl v) ?_
      by_cases hc : (r3 : Int32) = 1
      · replace w := w.2 hc
        refine kv_p (fun _ _ _ _ _ _ v => vv_icmp_ne (pc := 142) (tgt := 153) d_U_choose_142 rfl (fun hn => absurd hc hn) (fun _ => v)) ?_
        refine kv_p (fun _ _ _ _ _ _ v => vv_aloadr (pc := 145) d_U_choose_145 (cp_isr_rf (kr G p5)) rfl v) ?_
        obtain ⟨b8, w⟩ := w
        refine kw_grN (pc := 147) d_U_choose_147 fl_U_71 b8 rfl rfl ?_
        refine kv_p (fun _ _ _ _ _ _ v => vv_goto (pc := 150) (tgt := 157) d_U_choose_150 rfl v) ?_
        refine kv_p (fun _ _ _ _ _ _ v => vv_iload_n (pc := 157) d_U_choose_157 rfl v) ?_
        refine kv_p (fun _ _ _ _ _ _ v => vv_iconst (pc := 158) (v := 1) d_U_choose_158 rfl v) ?_
        refine kv_p (fun _ _ _ _ _ _ v => vv_iadd (pc := 159) d_U_choose_159 v) ?_
        refine kv_p (fun _ _ _ _ _ _ v => vv_iload_n (pc := 160) d_U_choose_160 rfl v) ?_
        obtain ⟨r11, T9, c10, w⟩ := w
        refine kw_cv (pc := 161) (As := [va_rf (kr G (T1.2.2.1 p5 6)), .int (x2 + 1), .int x3]) d_U_choose_161 c10 rfl k_U_work ml_U_51 (Or.inl ⟨by decide, rfl⟩) (by omega) (Nat.le_of_ble_eq_true rfl) ?_
        obtain ⟨rfl, rfl⟩ := w
        exact kv_e (fun _ _ => vv_iret (pc := 164) d_U_choose_164 rfl)
      · replace w := w.1 hc
        refine kv_p (fun _ _ _ _ _ _ v => vv_icmp_ne (pc := 142) (tgt := 153) d_U_choose_142 rfl (fun _ => v) (fun hn => absurd hn hc)) ?_
        refine kv_p (fun _ _ _ _ _ _ v => vv_aload_nr (pc := 153) d_U_choose_153 (cp_isr_rf (kr G p1)) rfl v) ?_
        obtain ⟨b4, w⟩ := w
        refine kw_grN (pc := 154) d_U_choose_154 fl_U_46 b4 rfl rfl ?_
        refine kv_p (fun _ _ _ _ _ _ v => vv_iload_n (pc := 157) d_U_choose_157 rfl v) ?_
        refine kv_p (fun _ _ _ _ _ _ v => vv_iconst (pc := 158) (v := 1) d_U_choose_158 rfl v) ?_
        refine kv_p (fun _ _ _ _ _ _ v => vv_iadd (pc := 159) d_U_choose_159 v) ?_
        refine kv_p (fun _ _ _ _ _ _ v => vv_iload_n (pc := 160) d_U_choose_160 rfl v) ?_
        obtain ⟨r7, T5, c6, w⟩ := w
        refine kw_cv (pc := 161) (As := [va_rf (kr G (T1.2.2.1 p1 5)), .int (x2 + 1), .int x3]) d_U_choose_161 c6 rfl k_U_work ml_U_51 (Or.inl ⟨by decide, rfl⟩) (by omega) (Nat.le_of_ble_eq_true rfl) ?_
        obtain ⟨rfl, rfl⟩ := w
        exact kv_e (fun _ _ => vv_iret (pc := 164) d_U_choose_164 rfl)
  · replace w := w.2 hc
    refine kv_p (fun _ _ _ _ _ _ v => vv_if_eq (pc := 103) (tgt := 117) d_U_choose_103 rfl (fun hn => absurd hn hc) (fun _ => v)) ?_
    refine kv_p (fun _ _ _ _ _ _ v => vv_aload_n (pc := 106) d_U_choose_106 rfl v) ?_
    refine kv_p (fun _ _ _ _ _ _ v => vv_iload (pc := 107) d_U_choose_107 rfl v) ?_
    refine kv_p (fun _ _ _ _ _ _ v => vv_iload (pc := 109) d_U_choose_109 rfl v) ?_
    refine kw_cv (pc := 111) (As := [.int x6, .int x7]) (As0 := (fun G => [.ref (cp_b G + 23), .int x6, .int x7])) d_U_choose_111 (C_UisLess) rfl k_U_isLess ml_U_149 (Or.inl ⟨by decide, rfl⟩) (by omega) (Nat.le_of_ble_eq_true rfl) ?_
    refine kv_p (fun _ _ _ _ _ _ v => vv_goto (pc := 114) (tgt := 128) d_U_choose_114 rfl v) ?_
    refine kv_p (fun _ _ _ _ _ _ v => vv_istore (pc := 128) d_U_choose_128 (Nat.le_of_ble_eq_true rfl) v) ?_
    refine kv_p (fun _ _ _ _ _ _ v => vv_iload (pc := 130) d_U_choose_130 rfl v) ?_
    refine kv_p (fun _ _ _ _ _ _ v => vv_iconst (pc := 132) (v := (-1)) d_U_choose_132 rfl v) ?_
    by_cases hc : ((if rget K 7 (x7 + 1) ≤ rget K 7 (x6 + 1) then 0 else 1) : Int32) = (-1)
    · replace w := w.2 hc
      refine kv_p (fun _ _ _ _ _ _ v => vv_icmp_ne (pc := 133) (tgt := 138) d_U_choose_133 rfl (fun hn => absurd hc hn) (fun _ => v)) ?_
      refine kv_p (fun _ _ _ _ _ _ v => vv_iconst (pc := 136) (v := (-1)) d_U_choose_136 rfl v) ?_
      obtain ⟨rfl, rfl⟩ := w
      exact kv_e (fun _ _ => vv_iret (pc := 137) d_U_choose_137 rfl)
    · replace w := w.1 hc
      refine kv_p (fun _ _ _ _ _ _ v => vv_icmp_ne (pc := 133) (tgt := 138) d_U_choose_133 rfl (fun _ => v) (fun hn => absurd hn hc)) ?_
      refine kv_p (fun _ _ _ _ _ _ v => vv_aload_n (pc := 138) d_U_choose_138 rfl v) ?_
      refine kv_p (fun _ _ _ _ _ _ v => vv_iload (pc := 139) d_U_choose_139 rfl v) ?_
      refine kv_p (fun _ _ _ _ _ _ v => vv_iconst (pc := 141) (v := 1) d_U_choose_141 rfl v) ?_
      by_cases hc : ((if rget K 7 (x7 + 1) ≤ rget K 7 (x6 + 1) then 0 else 1) : Int32) = 1
      · replace w := w.2 hc
        refine kv_p (fun _ _ _ _ _ _ v => vv_icmp_ne (pc := 142) (tgt := 153) d_U_choose_142 rfl (fun hn => absurd hc hn) (fun _ => v)) ?_
        refine kv_p (fun _ _ _ _ _ _ v => vv_aloadr (pc := 145) d_U_choose_145 (cp_isr_rf (kr G p5)) rfl v) ?_
        obtain ⟨b16, w⟩ := w
        refine kw_grN (pc := 147) d_U_choose_147 fl_U_71 b16 rfl rfl ?_
        refine kv_p (fun _ _ _ _ _ _ v => vv_goto (pc := 150) (tgt := 157) d_U_choose_150 rfl v) ?_
        refine kv_p (fun _ _ _ _ _ _ v => vv_iload_n (pc := 157) d_U_choose_157 rfl v) ?_
        refine kv_p (fun _ _ _ _ _ _ v => vv_iconst (pc := 158) (v := 1) d_U_choose_158 rfl v) ?_
        refine kv_p (fun _ _ _ _ _ _ v => vv_iadd (pc := 159) d_U_choose_159 v) ?_
        refine kv_p (fun _ _ _ _ _ _ v => vv_iload_n (pc := 160) d_U_choose_160 rfl v) ?_
        obtain ⟨r19, T17, c18, w⟩ := w
        refine kw_cv (pc := 161) (As := [va_rf (kr G (K.2.2.1 p5 6)), .int (x2 + 1), .int x3]) d_U_choose_161 c18 rfl k_U_work ml_U_51 (Or.inl ⟨by decide, rfl⟩) (by omega) (Nat.le_of_ble_eq_true rfl) ?_
        obtain ⟨rfl, rfl⟩ := w
        exact kv_e (fun _ _ => vv_iret (pc := 164) d_U_choose_164 rfl)
      · replace w := w.1 hc
        refine kv_p (fun _ _ _ _ _ _ v => vv_icmp_ne (pc := 142) (tgt := 153) d_U_choose_142 rfl (fun _ => v) (fun hn => absurd hn hc)) ?_
        refine kv_p (fun _ _ _ _ _ _ v => vv_aload_nr (pc := 153) d_U_choose_153 (cp_isr_rf (kr G p1)) rfl v) ?_
        obtain ⟨b12, w⟩ := w
        refine kw_grN (pc := 154) d_U_choose_154 fl_U_46 b12 rfl rfl ?_
        refine kv_p (fun _ _ _ _ _ _ v => vv_iload_n (pc := 157) d_U_choose_157 rfl v) ?_
        refine kv_p (fun _ _ _ _ _ _ v => vv_iconst (pc := 158) (v := 1) d_U_choose_158 rfl v) ?_
        refine kv_p (fun _ _ _ _ _ _ v => vv_iadd (pc := 159) d_U_choose_159 v) ?_
        refine kv_p (fun _ _ _ _ _ _ v => vv_iload_n (pc := 160) d_U_choose_160 rfl v) ?_
        obtain ⟨r15, T13, c14, w⟩ := w
        refine kw_cv (pc := 161) (As := [va_rf (kr G (K.2.2.1 p1 5)), .int (x2 + 1), .int x3]) d_U_choose_161 c14 rfl k_U_work ml_U_51 (Or.inl ⟨by decide, rfl⟩) (by omega) (Nat.le_of_ble_eq_true rfl) ?_
        obtain ⟨rfl, rfl⟩ := w
        exact kv_e (fun _ _ => vv_iret (pc := 164) d_U_choose_164 rfl)
def wp_U_workAndLook_0 (D : Nat) (o : cp_G → cp_O) (K' K : cp_K) (p1 : Nat) (x2 : Int32) (x3 : Int32) : Prop := ∃ r3 T1, KC (D + 7) m_U_work (fun G => [.ref (cp_b G + 23), va_rf (kr G p1), .int x2, .int x3]) K (fun _ => some (.int r3)) T1 ∧ ((¬ (r3 : Int32) = (-1) → ∃ r6 T4, KC (D + 7) m_V_lookThrough (fun G => [.ref (cp_b G + 6), .int r3]) T1 (fun _ => some (.int r6)) T4 ∧ (o = (fun _ => .inl (some (.int r6))) ∧ K' = T4)) ∧ ((r3 : Int32) = (-1) → (o = (fun _ => .inl (some (.int (-1)))) ∧ K' = T1)))
theorem b_U_workAndLook_0 {D : Nat} {o : cp_G → cp_O} {K' K : cp_K} {p1 : Nat} {x2 : Int32} {x3 : Int32} (w : wp_U_workAndLook_0 D o K' K p1 x2 x3) : JC (D + 8) m_U_workAndLook o K' 0 (fun G => [(0, .ref (cp_b G + 23)), (1, va_rf (kr G p1)), (2, .int x2), (3, .int x3)]) (fun _ => []) K := by
  unfold wp_U_workAndLook_0 at w
  intro G H d n0 z0 hd
  show kV G H m_U_workAndLook d n0 z0 (o G) K' 0 [(0, .ref (cp_b G + 23)), (1, va_rf (kr G p1)), (2, .int x2), (3, .int x3)] [] K
  refine kv_p (fun _ _ _ _ _ _ v => vv_aload_n (pc := 0) d_U_workAndLook_0 rfl v) ?_
  refine kv_p (fun _ _ _ _ _ _ v => vv_aload_nr (pc := 1) d_U_workAndLook_1 (cp_isr_rf (kr G p1)) rfl v) ?_
  refine kv_p (fun _ _ _ _ _ _ v => vv_iload_n (pc := 2) d_U_workAndLook_2 rfl v) ?_
  refine kv_p (fun _ _ _ _ _ _ v => vv_iload_n (pc := 3) d_U_workAndLook_3 rfl v) ?_
  obtain ⟨r3, T1, c2, w⟩ := w
  refine kw_cv (pc := 4) (As := [va_rf (kr G p1), .int x2, .int x3]) d_U_workAndLook_4 c2 rfl k_U_work ml_U_51 (Or.inl ⟨by decide, rfl⟩) (by omega) (Nat.le_of_ble_eq_true rfl) ?_
  refine kv_p (fun _ _ _ _ _ _ v => vv_istore (pc := 7) d_U_workAndLook_7 (Nat.le_of_ble_eq_true rfl) v) ?_
  refine kv_p (fun _ _ _ _ _ _ v => vv_iload (pc := 9) d_U_workAndLook_9 rfl v) ?_
  refine kv_p (fun _ _ _ _ _ _ v => vv_iconst (pc := 11) (v := (-1)) d_U_workAndLook_11 rfl v) ?_
  by_cases hc : (r3 : Int32) = (-1)
  · replace w := w.2 hc
    refine kv_p (fun _ _ _ _ _ _ v => vv_icmp_ne (pc := 12) (tgt := 19) d_U_workAndLook_12 rfl (fun hn => absurd hc hn) (fun _ => v)) ?_
    refine kv_p (fun _ _ _ _ _ _ v => vv_iconst (pc := 15) (v := (-1)) d_U_workAndLook_15 rfl v) ?_
    refine kv_p (fun _ _ _ _ _ _ v => vv_goto (pc := 16) (tgt := 28) d_U_workAndLook_16 rfl v) ?_
    obtain ⟨rfl, rfl⟩ := w
    exact kv_e (fun _ _ => vv_iret (pc := 28) d_U_workAndLook_28 rfl)
  · replace w := w.1 hc
    refine kv_p (fun _ _ _ _ _ _ v => vv_icmp_ne (pc := 12) (tgt := 19) d_U_workAndLook_12 rfl (fun _ => v) (fun hn => absurd hn hc)) ?_
    refine kv_p (fun _ _ _ _ _ _ v => vv_aload_n (pc := 19) d_U_workAndLook_19 rfl v) ?_
    refine kw_gf (pc := 20) 6 d_U_workAndLook_20 fl_U_15 (Or.inl ⟨by decide, rfl⟩) rfl (by decide) ?_
    refine kv_p (fun _ _ _ _ _ _ v => vv_iload (pc := 23) d_U_workAndLook_23 rfl v) ?_
    obtain ⟨r6, T4, c5, w⟩ := w
    refine kw_cv (pc := 25) (As := [.int r3]) d_U_workAndLook_25 c5 rfl k_V_lookThrough ml_U_155 (Or.inl ⟨by decide, rfl⟩) (by omega) (Nat.le_of_ble_eq_true rfl) ?_
    obtain ⟨rfl, rfl⟩ := w
    exact kv_e (fun _ _ => vv_iret (pc := 28) d_U_workAndLook_28 rfl)
theorem c_U_workAndLook {D : Nat} {o : cp_G → Option Value} {K' K : cp_K} {p1 : Nat} {x2 : Int32} {x3 : Int32} (w : wp_U_workAndLook_0 D (fun G => .inl (o G)) K' K p1 x2 x3) : KC (D + 8) m_U_workAndLook (fun G => [.ref (cp_b G + 23), va_rf (kr G p1), .int x2, .int x3]) K o K' := KC.of2 rfl (fun G => by cases kr G p1 <;> exact ⟨Nat.le_of_ble_eq_true rfl, rfl⟩) (b_U_workAndLook_0 w)
def wp_T_typeAlone_0 (D : Nat) (o : cp_G → cp_O) (K' K : cp_K) (p1 : Nat) : Prop := (0 = (0 : Int32) ∨ 0 = (1 : Int32)) ∧ ∃ r4 T2, KC (D + 7) m_T_typeOf (fun G => [.ref (cp_b G + 24), va_rf (kr G p1)]) (tbegin K 0) (fun _ => some (.int r4)) T2 ∧ (o = (fun _ => .inl (some (.int r4))) ∧ K' = T2)
theorem b_T_typeAlone_0 {D : Nat} {o : cp_G → cp_O} {K' K : cp_K} {p1 : Nat} (w : wp_T_typeAlone_0 D o K' K p1) : JC (D + 8) m_T_typeAlone o K' 0 (fun G => [(0, .ref (cp_b G + 24)), (1, va_rf (kr G p1))]) (fun _ => []) K := by
  unfold wp_T_typeAlone_0 at w
  intro G H d n0 z0 hd
  show kV G H m_T_typeAlone d n0 z0 (o G) K' 0 [(0, .ref (cp_b G + 24)), (1, va_rf (kr G p1))] [] K
  refine kv_p (fun _ _ _ _ _ _ v => vv_aload_n (pc := 0) d_T_typeAlone_0 rfl v) ?_
  refine kv_p (fun _ _ _ _ _ _ v => vv_iconst (pc := 1) (v := 0) d_T_typeAlone_1 rfl v) ?_
  obtain ⟨b1, w⟩ := w
  refine kw_cv (pc := 2) (As := [.int 0]) (As0 := (fun G => [.ref (cp_b G + 24), .int 0])) d_T_typeAlone_2 (C_Tbegin b1) rfl k_T_begin ml_T_41 (Or.inl ⟨by decide, rfl⟩) (by omega) (Nat.le_of_ble_eq_true rfl) ?_
  refine kv_p (fun _ _ _ _ _ _ v => vv_aload_n (pc := 5) d_T_typeAlone_5 rfl v) ?_
  refine kv_p (fun _ _ _ _ _ _ v => vv_aload_nr (pc := 6) d_T_typeAlone_6 (cp_isr_rf (kr G p1)) rfl v) ?_
  obtain ⟨r4, T2, c3, w⟩ := w
  refine kw_cv (pc := 7) (As := [va_rf (kr G p1)]) d_T_typeAlone_7 c3 rfl k_T_typeOf ml_T_45 (Or.inl ⟨by decide, rfl⟩) (by omega) (Nat.le_of_ble_eq_true rfl) ?_
  obtain ⟨rfl, rfl⟩ := w
  exact kv_e (fun _ _ => vv_iret (pc := 10) d_T_typeAlone_10 rfl)
theorem c_T_typeAlone {D : Nat} {o : cp_G → Option Value} {K' K : cp_K} {p1 : Nat} (w : wp_T_typeAlone_0 D (fun G => .inl (o G)) K' K p1) : KC (D + 8) m_T_typeAlone (fun G => [.ref (cp_b G + 24), va_rf (kr G p1)]) K o K' := KC.of2 rfl (fun G => by cases kr G p1 <;> exact ⟨Nat.le_of_ble_eq_true rfl, rfl⟩) (b_T_typeAlone_0 w)
def wp_T_wrongInArguments_0 (D : Nat) (o : cp_G → cp_O) (K' K : cp_K) (p1 : Nat) : Prop := (0 = (0 : Int32) ∨ 0 = (1 : Int32)) ∧ nd K p1 9 ∧ JC (D + 8) m_T_wrongInArguments o K' 10 (fun G => [(0, .ref (cp_b G + 24)), (1, va_rf (kr G p1)), (2, va_rf (kr G ((tbegin K 0).2.2.1 p1 4)))]) (fun _ => []) (tbegin K 0)
theorem b_T_wrongInArguments_0 {D : Nat} {o : cp_G → cp_O} {K' K : cp_K} {p1 : Nat} (w : wp_T_wrongInArguments_0 D o K' K p1) : JC (D + 8) m_T_wrongInArguments o K' 0 (fun G => [(0, .ref (cp_b G + 24)), (1, va_rf (kr G p1))]) (fun _ => []) K := by
  unfold wp_T_wrongInArguments_0 at w
  intro G H d n0 z0 hd
  show kV G H m_T_wrongInArguments d n0 z0 (o G) K' 0 [(0, .ref (cp_b G + 24)), (1, va_rf (kr G p1))] [] K
  refine kv_p (fun _ _ _ _ _ _ v => vv_aload_n (pc := 0) d_T_wrongInArguments_0 rfl v) ?_
  refine kv_p (fun _ _ _ _ _ _ v => vv_iconst (pc := 1) (v := 0) d_T_wrongInArguments_1 rfl v) ?_
  obtain ⟨b1, w⟩ := w
  refine kw_cv (pc := 2) (As := [.int 0]) (As0 := (fun G => [.ref (cp_b G + 24), .int 0])) d_T_wrongInArguments_2 (C_Tbegin b1) rfl k_T_begin ml_T_41 (Or.inl ⟨by decide, rfl⟩) (by omega) (Nat.le_of_ble_eq_true rfl) ?_
  refine kv_p (fun _ _ _ _ _ _ v => vv_aload_nr (pc := 5) d_T_wrongInArguments_5 (cp_isr_rf (kr G p1)) rfl v) ?_
  obtain ⟨b2, w⟩ := w
  refine kw_grN (pc := 6) d_T_wrongInArguments_6 fl_T_49 (nd_tbegin b2) rfl rfl ?_
  refine kv_p (fun _ _ _ _ _ _ v => vv_astore_n (pc := 9) d_T_wrongInArguments_9 (cp_isr_rf (kr G ((tbegin K 0).2.2.1 p1 4))) (Nat.le_of_ble_eq_true rfl) v) ?_
  refine kw_lv (lv := [(2, va_rf (kr G ((tbegin K 0).2.2.1 p1 4))), (0, .ref (cp_b G + 24)), (1, va_rf (kr G p1))]) (by cases kr G p1 <;> rfl) ?_
  exact kw_sub [1, 2, 0] rfl (w G H d n0 z0 hd)
theorem c_T_wrongInArguments {D : Nat} {o : cp_G → Option Value} {K' K : cp_K} {p1 : Nat} (w : wp_T_wrongInArguments_0 D (fun G => .inl (o G)) K' K p1) : KC (D + 8) m_T_wrongInArguments (fun G => [.ref (cp_b G + 24), va_rf (kr G p1)]) K o K' := KC.of2 rfl (fun G => by cases kr G p1 <;> exact ⟨Nat.le_of_ble_eq_true rfl, rfl⟩) (b_T_wrongInArguments_0 w)
def wp_T_wrongInArguments_10 (D : Nat) (o : cp_G → cp_O) (K' K : cp_K) (p1 : Nat) (p2 : Nat) : Prop := ((p2 = (0 : Nat) → (o = (fun _ => .inl (some (.int (-1)))) ∧ K' = K)) ∧ (¬ p2 = (0 : Nat) → ∃ r3 T1, KC (D + 7) m_T_typeOf (fun G => [.ref (cp_b G + 24), va_rf (kr G p2)]) K (fun _ => some (.int r3)) T1 ∧ ((¬ (r3 : Int32) = (-1) → (rsz T1 15 < k_lim 15 ∧ rsz T1 17 < k_lim 17 ∧ rsz T1 19 < k_lim 19) ∧ nd T1 p2 9 ∧ JC (D + 8) m_T_wrongInArguments o K' 10 (fun G => [(0, .ref (cp_b G + 24)), (1, va_rf (kr G p1)), (2, va_rf (kr G ((bpush T1 0 (T1.2.1 24 7) (-1)).2.2.1 p2 6)))]) (fun _ => []) (bpush T1 0 (T1.2.1 24 7) (-1))) ∧ ((r3 : Int32) = (-1) → (o = (fun _ => .inl (some (.int (T1.2.1 24 6)))) ∧ K' = T1)))))
theorem b_T_wrongInArguments_10 {D : Nat} {o : cp_G → cp_O} {K' K : cp_K} {p1 : Nat} {p2 : Nat} (w : wp_T_wrongInArguments_10 D o K' K p1 p2) : JC (D + 8) m_T_wrongInArguments o K' 10 (fun G => [(0, .ref (cp_b G + 24)), (1, va_rf (kr G p1)), (2, va_rf (kr G p2))]) (fun _ => []) K := by
  unfold wp_T_wrongInArguments_10 at w
  intro G H d n0 z0 hd
  show kV G H m_T_wrongInArguments d n0 z0 (o G) K' 10 [(0, .ref (cp_b G + 24)), (1, va_rf (kr G p1)), (2, va_rf (kr G p2))] [] K
  refine kv_p (fun _ _ _ _ _ _ v => vv_aload_nr (pc := 10) d_T_wrongInArguments_10 (cp_isr_rf (kr G p2)) rfl v) ?_
  refine kw_ifnull (pc := 11) (tgt := 47) d_T_wrongInArguments_11 rfl (fun hc => ?_) (fun hc => ?_)
  · replace w := w.1 hc
    refine kv_p (fun _ _ _ _ _ _ v => vv_iconst (pc := 47) (v := (-1)) d_T_wrongInArguments_47 rfl v) ?_
    obtain ⟨rfl, rfl⟩ := w
    exact kv_e (fun _ _ => vv_iret (pc := 48) d_T_wrongInArguments_48 rfl)
  · replace w := w.2 hc
    refine kv_p (fun _ _ _ _ _ _ v => vv_aload_n (pc := 14) d_T_wrongInArguments_14 rfl v) ?_
    refine kv_p (fun _ _ _ _ _ _ v => vv_aload_nr (pc := 15) d_T_wrongInArguments_15 (cp_isr_rf (kr G p2)) rfl v) ?_
    obtain ⟨r3, T1, c2, w⟩ := w
    refine kw_cv (pc := 16) (As := [va_rf (kr G p2)]) d_T_wrongInArguments_16 c2 rfl k_T_typeOf ml_T_45 (Or.inl ⟨by decide, rfl⟩) (by omega) (Nat.le_of_ble_eq_true rfl) ?_
    refine kv_p (fun _ _ _ _ _ _ v => vv_iconst (pc := 19) (v := (-1)) d_T_wrongInArguments_19 rfl v) ?_
    by_cases hc : (r3 : Int32) = (-1)
    · replace w := w.2 hc
      refine kv_p (fun _ _ _ _ _ _ v => vv_icmp_ne (pc := 20) (tgt := 28) d_T_wrongInArguments_20 rfl (fun hn => absurd hc hn) (fun _ => v)) ?_
      refine kv_p (fun _ _ _ _ _ _ v => vv_aload_n (pc := 23) d_T_wrongInArguments_23 rfl v) ?_
      refine kw_gi (pc := 24) d_T_wrongInArguments_24 fl_T_35 (Or.inl ⟨by decide, rfl⟩) rfl rfl ?_
      obtain ⟨rfl, rfl⟩ := w
      exact kv_e (fun _ _ => vv_iret (pc := 27) d_T_wrongInArguments_27 rfl)
    · replace w := w.1 hc
      refine kv_p (fun _ _ _ _ _ _ v => vv_icmp_ne (pc := 20) (tgt := 28) d_T_wrongInArguments_20 rfl (fun _ => v) (fun hn => absurd hn hc)) ?_
      refine kv_p (fun _ _ _ _ _ _ v => vv_aload_n (pc := 28) d_T_wrongInArguments_28 rfl v) ?_
      refine kw_gf (pc := 29) 14 d_T_wrongInArguments_29 fl_T_19 (Or.inl ⟨by decide, rfl⟩) rfl (by decide) ?_
      refine kv_p (fun _ _ _ _ _ _ v => vv_aload_n (pc := 32) d_T_wrongInArguments_32 rfl v) ?_
      refine kw_gi (pc := 33) d_T_wrongInArguments_33 fl_T_38 (Or.inl ⟨by decide, rfl⟩) rfl rfl ?_
      obtain ⟨b4, w⟩ := w
      refine kw_cv (pc := 36) (As := [.int (T1.2.1 24 7)]) (As0 := (fun G => [.ref (cp_b G + 14), .int (T1.2.1 24 7)])) d_T_wrongInArguments_36 (C_Bpu b4) rfl k_B_pushUnnamed ml_T_55 (Or.inl ⟨by decide, rfl⟩) (by omega) (Nat.le_of_ble_eq_true rfl) ?_
      refine kv_p (fun _ _ _ _ _ _ v => vv_aload_nr (pc := 39) d_T_wrongInArguments_39 (cp_isr_rf (kr G p2)) rfl v) ?_
      obtain ⟨b5, w⟩ := w
      refine kw_grN (pc := 40) d_T_wrongInArguments_40 fl_T_61 (nd_bpush b5) rfl rfl ?_
      refine kv_p (fun _ _ _ _ _ _ v => vv_astore_n (pc := 43) d_T_wrongInArguments_43 (cp_isr_rf (kr G ((bpush T1 0 (T1.2.1 24 7) (-1)).2.2.1 p2 6))) (Nat.le_of_ble_eq_true rfl) v) ?_
      refine kw_lv (lv := [(2, va_rf (kr G ((bpush T1 0 (T1.2.1 24 7) (-1)).2.2.1 p2 6))), (0, .ref (cp_b G + 24)), (1, va_rf (kr G p1))]) (by cases kr G p1 <;> rfl) ?_
      refine kv_p (fun _ _ _ _ _ _ v => vv_goto (pc := 44) (tgt := 10) d_T_wrongInArguments_44 rfl v) ?_
      exact kw_sub [1, 2, 0] rfl (w G H d n0 z0 hd)
def wp_T_wrongInDeclaration_0 (D : Nat) (o : cp_G → cp_O) (K' K : cp_K) (p1 : Nat) : Prop := (1 = (0 : Int32) ∨ 1 = (1 : Int32)) ∧ nd K p1 9 ∧ JC (D + 8) m_T_wrongInDeclaration o K' 10 (fun G => [(0, .ref (cp_b G + 24)), (1, va_rf (kr G p1)), (2, va_rf (kr G ((tbegin K 1).2.2.1 p1 4)))]) (fun _ => []) (tbegin K 1)
theorem b_T_wrongInDeclaration_0 {D : Nat} {o : cp_G → cp_O} {K' K : cp_K} {p1 : Nat} (w : wp_T_wrongInDeclaration_0 D o K' K p1) : JC (D + 8) m_T_wrongInDeclaration o K' 0 (fun G => [(0, .ref (cp_b G + 24)), (1, va_rf (kr G p1))]) (fun _ => []) K := by
  unfold wp_T_wrongInDeclaration_0 at w
  intro G H d n0 z0 hd
  show kV G H m_T_wrongInDeclaration d n0 z0 (o G) K' 0 [(0, .ref (cp_b G + 24)), (1, va_rf (kr G p1))] [] K
  refine kv_p (fun _ _ _ _ _ _ v => vv_aload_n (pc := 0) d_T_wrongInDeclaration_0 rfl v) ?_
  refine kv_p (fun _ _ _ _ _ _ v => vv_iconst (pc := 1) (v := 1) d_T_wrongInDeclaration_1 rfl v) ?_
  obtain ⟨b1, w⟩ := w
  refine kw_cv (pc := 2) (As := [.int 1]) (As0 := (fun G => [.ref (cp_b G + 24), .int 1])) d_T_wrongInDeclaration_2 (C_Tbegin b1) rfl k_T_begin ml_T_41 (Or.inl ⟨by decide, rfl⟩) (by omega) (Nat.le_of_ble_eq_true rfl) ?_
  refine kv_p (fun _ _ _ _ _ _ v => vv_aload_nr (pc := 5) d_T_wrongInDeclaration_5 (cp_isr_rf (kr G p1)) rfl v) ?_
  obtain ⟨b2, w⟩ := w
  refine kw_grN (pc := 6) d_T_wrongInDeclaration_6 fl_T_49 (nd_tbegin b2) rfl rfl ?_
  refine kv_p (fun _ _ _ _ _ _ v => vv_astore_n (pc := 9) d_T_wrongInDeclaration_9 (cp_isr_rf (kr G ((tbegin K 1).2.2.1 p1 4))) (Nat.le_of_ble_eq_true rfl) v) ?_
  refine kw_lv (lv := [(2, va_rf (kr G ((tbegin K 1).2.2.1 p1 4))), (0, .ref (cp_b G + 24)), (1, va_rf (kr G p1))]) (by cases kr G p1 <;> rfl) ?_
  exact kw_sub [1, 2, 0] rfl (w G H d n0 z0 hd)
theorem c_T_wrongInDeclaration {D : Nat} {o : cp_G → Option Value} {K' K : cp_K} {p1 : Nat} (w : wp_T_wrongInDeclaration_0 D (fun G => .inl (o G)) K' K p1) : KC (D + 8) m_T_wrongInDeclaration (fun G => [.ref (cp_b G + 24), va_rf (kr G p1)]) K o K' := KC.of2 rfl (fun G => by cases kr G p1 <;> exact ⟨Nat.le_of_ble_eq_true rfl, rfl⟩) (b_T_wrongInDeclaration_0 w)
def wp_T_wrongInDeclaration_10 (D : Nat) (o : cp_G → cp_O) (K' K : cp_K) (p1 : Nat) (p2 : Nat) : Prop := ((p2 = (0 : Nat) → (o = (fun _ => .inl (some (.int (-1)))) ∧ K' = K)) ∧ (¬ p2 = (0 : Nat) → nd K p2 9 ∧ ((¬ ((K.2.1 p2 0) : Int32) = 15 → JC (D + 8) m_T_wrongInDeclaration o K' 46 (fun G => [(0, .ref (cp_b G + 24)), (1, va_rf (kr G p1)), (2, va_rf (kr G p2)), (3, .int 0)]) (fun _ => []) K) ∧ (((K.2.1 p2 0) : Int32) = 15 → (¬ dfind K (K.2.1 p2 1) = 0 → nd K (dfind K (K.2.1 p2 1)) 10) ∧ ((¬ ((ffp K p2) : Int32) = 0 → JC (D + 8) m_T_wrongInDeclaration o K' 46 (fun G => [(0, .ref (cp_b G + 24)), (1, va_rf (kr G p1)), (2, va_rf (kr G p2)), (3, .int 1)]) (fun _ => []) K) ∧ (((ffp K p2) : Int32) = 0 → (o = (fun _ => .inl (some (.int (K.2.1 p2 2)))) ∧ K' = K)))))))
theorem b_T_wrongInDeclaration_10 {D : Nat} {o : cp_G → cp_O} {K' K : cp_K} {p1 : Nat} {p2 : Nat} (w : wp_T_wrongInDeclaration_10 D o K' K p1 p2) : JC (D + 8) m_T_wrongInDeclaration o K' 10 (fun G => [(0, .ref (cp_b G + 24)), (1, va_rf (kr G p1)), (2, va_rf (kr G p2))]) (fun _ => []) K := by
  unfold wp_T_wrongInDeclaration_10 at w
  intro G H d n0 z0 hd
  show kV G H m_T_wrongInDeclaration d n0 z0 (o G) K' 10 [(0, .ref (cp_b G + 24)), (1, va_rf (kr G p1)), (2, va_rf (kr G p2))] [] K
  refine kv_p (fun _ _ _ _ _ _ v => vv_aload_nr (pc := 10) d_T_wrongInDeclaration_10 (cp_isr_rf (kr G p2)) rfl v) ?_
  refine kw_ifnull (pc := 11) (tgt := 130) d_T_wrongInDeclaration_11 rfl (fun hc => ?_) (fun hc => ?_)
  · replace w := w.1 hc
    refine kv_p (fun _ _ _ _ _ _ v => vv_iconst (pc := 130) (v := (-1)) d_T_wrongInDeclaration_130 rfl v) ?_
    obtain ⟨rfl, rfl⟩ := w
    exact kv_e (fun _ _ => vv_iret (pc := 131) d_T_wrongInDeclaration_131 rfl)
  · replace w := w.2 hc
    refine kv_p (fun _ _ _ _ _ _ v => vv_aload_nr (pc := 14) d_T_wrongInDeclaration_14 (cp_isr_rf (kr G p2)) rfl v) ?_
    obtain ⟨b1, w⟩ := w
    refine kw_giN (pc := 15) d_T_wrongInDeclaration_15 fl_T_64 b1 rfl rfl ?_
    refine kv_p (fun _ _ _ _ _ _ v => vv_bipush (pc := 18) (v := 15) d_T_wrongInDeclaration_18 rfl v) ?_
    by_cases hc : ((K.2.1 p2 0) : Int32) = 15
    · replace w := w.2 hc
      refine kv_p (fun _ _ _ _ _ _ v => vv_icmp_ne (pc := 20) (tgt := 27) d_T_wrongInDeclaration_20 rfl (fun hn => absurd hc hn) (fun _ => v)) ?_
      refine kv_p (fun _ _ _ _ _ _ v => vv_iconst (pc := 23) (v := 1) d_T_wrongInDeclaration_23 rfl v) ?_
      refine kv_p (fun _ _ _ _ _ _ v => vv_goto (pc := 24) (tgt := 28) d_T_wrongInDeclaration_24 rfl v) ?_
      refine kv_p (fun _ _ _ _ _ _ v => vv_istore_n (pc := 28) d_T_wrongInDeclaration_28 (Nat.le_of_ble_eq_true rfl) v) ?_
      refine kw_lv (lv := [(3, .int 1), (0, .ref (cp_b G + 24)), (1, va_rf (kr G p1)), (2, va_rf (kr G p2))]) (by cases kr G p2 <;> rfl) ?_
      refine kv_p (fun _ _ _ _ _ _ v => vv_iload_n (pc := 29) d_T_wrongInDeclaration_29 rfl v) ?_
      refine kv_p (fun _ _ _ _ _ _ v => vv_if_eq (pc := 30) (tgt := 46) d_T_wrongInDeclaration_30 rfl (fun hn => absurd hn (by decide)) (fun _ => v)) ?_
      refine kv_p (fun _ _ _ _ _ _ v => vv_aload_n (pc := 33) d_T_wrongInDeclaration_33 rfl v) ?_
      refine kv_p (fun _ _ _ _ _ _ v => vv_aload_nr (pc := 34) d_T_wrongInDeclaration_34 (cp_isr_rf (kr G p2)) rfl v) ?_
      obtain ⟨b2, w⟩ := w
      refine kw_cv (pc := 35) (As := [va_rf (kr G p2)]) (As0 := (fun G => [.ref (cp_b G + 24), va_rf (kr G p2)])) d_T_wrongInDeclaration_35 (C_TfitsItsProgram b1 b2) rfl k_T_fitsItsProgram ml_T_67 (Or.inl ⟨by decide, rfl⟩) (by omega) (Nat.le_of_ble_eq_true rfl) ?_
      by_cases hc : ((ffp K p2) : Int32) = 0
      · replace w := w.2 hc
        refine kv_p (fun _ _ _ _ _ _ v => vv_if_ne (pc := 38) (tgt := 46) d_T_wrongInDeclaration_38 rfl (fun hn => absurd hc hn) (fun _ => v)) ?_
        refine kv_p (fun _ _ _ _ _ _ v => vv_aload_nr (pc := 41) d_T_wrongInDeclaration_41 (cp_isr_rf (kr G p2)) rfl v) ?_
        refine kw_giN (pc := 42) d_T_wrongInDeclaration_42 fl_T_71 b1 rfl rfl ?_
        obtain ⟨rfl, rfl⟩ := w
        exact kv_e (fun _ _ => vv_iret (pc := 45) d_T_wrongInDeclaration_45 rfl)
      · replace w := w.1 hc
        refine kv_p (fun _ _ _ _ _ _ v => vv_if_ne (pc := 38) (tgt := 46) d_T_wrongInDeclaration_38 rfl (fun _ => v) (fun hn => absurd hn hc)) ?_
        exact kw_sub [1, 2, 3, 0] rfl (w G H d n0 z0 hd)
    · replace w := w.1 hc
      refine kv_p (fun _ _ _ _ _ _ v => vv_icmp_ne (pc := 20) (tgt := 27) d_T_wrongInDeclaration_20 rfl (fun _ => v) (fun hn => absurd hn hc)) ?_
      refine kv_p (fun _ _ _ _ _ _ v => vv_iconst (pc := 27) (v := 0) d_T_wrongInDeclaration_27 rfl v) ?_
      refine kv_p (fun _ _ _ _ _ _ v => vv_istore_n (pc := 28) d_T_wrongInDeclaration_28 (Nat.le_of_ble_eq_true rfl) v) ?_
      refine kw_lv (lv := [(3, .int 0), (0, .ref (cp_b G + 24)), (1, va_rf (kr G p1)), (2, va_rf (kr G p2))]) (by cases kr G p2 <;> rfl) ?_
      refine kv_p (fun _ _ _ _ _ _ v => vv_iload_n (pc := 29) d_T_wrongInDeclaration_29 rfl v) ?_
      refine kv_p (fun _ _ _ _ _ _ v => vv_if_eq (pc := 30) (tgt := 46) d_T_wrongInDeclaration_30 rfl (fun _ => v) (fun hn => absurd (by decide) hn)) ?_
      exact kw_sub [1, 2, 3, 0] rfl (w G H d n0 z0 hd)
def wp_T_wrongInDeclaration_46 (D : Nat) (o : cp_G → cp_O) (K' K : cp_K) (p1 : Nat) (p2 : Nat) (x3 : Int32) : Prop := nd K p2 9 ∧ JC (D + 8) m_T_wrongInDeclaration o K' 52 (fun G => [(0, .ref (cp_b G + 24)), (1, va_rf (kr G p1)), (2, va_rf (kr G p2)), (3, .int x3), (4, va_rf (kr G (K.2.2.1 p2 4)))]) (fun _ => []) K
theorem b_T_wrongInDeclaration_46 {D : Nat} {o : cp_G → cp_O} {K' K : cp_K} {p1 : Nat} {p2 : Nat} {x3 : Int32} (w : wp_T_wrongInDeclaration_46 D o K' K p1 p2 x3) : JC (D + 8) m_T_wrongInDeclaration o K' 46 (fun G => [(0, .ref (cp_b G + 24)), (1, va_rf (kr G p1)), (2, va_rf (kr G p2)), (3, .int x3)]) (fun _ => []) K := by
  unfold wp_T_wrongInDeclaration_46 at w
  intro G H d n0 z0 hd
  show kV G H m_T_wrongInDeclaration d n0 z0 (o G) K' 46 [(0, .ref (cp_b G + 24)), (1, va_rf (kr G p1)), (2, va_rf (kr G p2)), (3, .int x3)] [] K
  refine kv_p (fun _ _ _ _ _ _ v => vv_aload_nr (pc := 46) d_T_wrongInDeclaration_46 (cp_isr_rf (kr G p2)) rfl v) ?_
  obtain ⟨b1, w⟩ := w
  refine kw_grN (pc := 47) d_T_wrongInDeclaration_47 fl_T_49 b1 rfl rfl ?_
  refine kv_p (fun _ _ _ _ _ _ v => vv_astore (pc := 50) d_T_wrongInDeclaration_50 (cp_isr_rf (kr G (K.2.2.1 p2 4))) (Nat.le_of_ble_eq_true rfl) v) ?_
  exact kw_sub [1, 2, 3, 4, 0] rfl (w G H d n0 z0 hd)
def wp_T_wrongInDeclaration_52 (D : Nat) (o : cp_G → cp_O) (K' K : cp_K) (p1 : Nat) (p2 : Nat) (x3 : Int32) (p4 : Nat) : Prop := ((p4 = (0 : Nat) → nd K p2 9 ∧ ((¬ ((K.2.1 p2 0) : Int32) = 14 → JC (D + 8) m_T_wrongInDeclaration o K' 122 (fun G => [(0, .ref (cp_b G + 24)), (1, va_rf (kr G p1)), (2, va_rf (kr G p2)), (3, .int x3), (4, va_rf (kr G p4))]) (fun _ => []) K) ∧ (((K.2.1 p2 0) : Int32) = 14 → ∃ T2, KC (D + 7) m_T_learnName (fun G => [.ref (cp_b G + 24), .int (K.2.1 p2 1)]) K (fun _ => none) T2 ∧ JC (D + 8) m_T_wrongInDeclaration o K' 122 (fun G => [(0, .ref (cp_b G + 24)), (1, va_rf (kr G p1)), (2, va_rf (kr G p2)), (3, .int x3), (4, va_rf (kr G p4))]) (fun _ => []) T2))) ∧ (¬ p4 = (0 : Nat) → ∃ r6 T4, KC (D + 7) m_T_typeOf (fun G => [.ref (cp_b G + 24), va_rf (kr G p4)]) K (fun _ => some (.int r6)) T4 ∧ ((¬ (r6 : Int32) = (-1) → ((¬ (x3 : Int32) = 0 → JC (D + 8) m_T_wrongInDeclaration o K' 95 (fun G => [(0, .ref (cp_b G + 24)), (1, va_rf (kr G p1)), (2, va_rf (kr G p2)), (3, .int x3), (4, va_rf (kr G p4)), (5, .int r6)]) (fun _ => []) T4) ∧ ((x3 : Int32) = 0 → ((¬ ((if rget T4 7 r6 = 3 then 1 else 0) : Int32) = 0 → JC (D + 8) m_T_wrongInDeclaration o K' 95 (fun G => [(0, .ref (cp_b G + 24)), (1, va_rf (kr G p1)), (2, va_rf (kr G p2)), (3, .int x3), (4, va_rf (kr G p4)), (5, .int r6)]) (fun _ => []) T4) ∧ (((if rget T4 7 r6 = 3 then 1 else 0) : Int32) = 0 → nd T4 p4 9 ∧ (o = (fun _ => .inl (some (.int (T4.2.1 p4 2)))) ∧ K' = T4)))))) ∧ ((r6 : Int32) = (-1) → (o = (fun _ => .inl (some (.int (T4.2.1 24 6)))) ∧ K' = T4)))))
theorem b_T_wrongInDeclaration_52 {D : Nat} {o : cp_G → cp_O} {K' K : cp_K} {p1 : Nat} {p2 : Nat} {x3 : Int32} {p4 : Nat} (w : wp_T_wrongInDeclaration_52 D o K' K p1 p2 x3 p4) : JC (D + 8) m_T_wrongInDeclaration o K' 52 (fun G => [(0, .ref (cp_b G + 24)), (1, va_rf (kr G p1)), (2, va_rf (kr G p2)), (3, .int x3), (4, va_rf (kr G p4))]) (fun _ => []) K := by
  unfold wp_T_wrongInDeclaration_52 at w
  intro G H d n0 z0 hd
  show kV G H m_T_wrongInDeclaration d n0 z0 (o G) K' 52 [(0, .ref (cp_b G + 24)), (1, va_rf (kr G p1)), (2, va_rf (kr G p2)), (3, .int x3), (4, va_rf (kr G p4))] [] K
  refine kv_p (fun _ _ _ _ _ _ v => vv_aloadr (pc := 52) d_T_wrongInDeclaration_52 (cp_isr_rf (kr G p4)) rfl v) ?_
  refine kw_ifnull (pc := 54) (tgt := 105) d_T_wrongInDeclaration_54 rfl (fun hc => ?_) (fun hc => ?_)
  · replace w := w.1 hc
    refine kv_p (fun _ _ _ _ _ _ v => vv_aload_nr (pc := 105) d_T_wrongInDeclaration_105 (cp_isr_rf (kr G p2)) rfl v) ?_
    obtain ⟨b1, w⟩ := w
    refine kw_giN (pc := 106) d_T_wrongInDeclaration_106 fl_T_64 b1 rfl rfl ?_
    refine kv_p (fun _ _ _ _ _ _ v => vv_bipush (pc := 109) (v := 14) d_T_wrongInDeclaration_109 rfl v) ?_
    by_cases hc : ((K.2.1 p2 0) : Int32) = 14
    · replace w := w.2 hc
      refine kv_p (fun _ _ _ _ _ _ v => vv_icmp_ne (pc := 111) (tgt := 122) d_T_wrongInDeclaration_111 rfl (fun hn => absurd hc hn) (fun _ => v)) ?_
      refine kv_p (fun _ _ _ _ _ _ v => vv_aload_n (pc := 114) d_T_wrongInDeclaration_114 rfl v) ?_
      refine kv_p (fun _ _ _ _ _ _ v => vv_aload_nr (pc := 115) d_T_wrongInDeclaration_115 (cp_isr_rf (kr G p2)) rfl v) ?_
      refine kw_giN (pc := 116) d_T_wrongInDeclaration_116 fl_T_78 b1 rfl rfl ?_
      obtain ⟨T2, c3, w⟩ := w
      refine kw_cv (pc := 119) (As := [.int (K.2.1 p2 1)]) d_T_wrongInDeclaration_119 c3 rfl k_T_learnName ml_T_81 (Or.inl ⟨by decide, rfl⟩) (by omega) (Nat.le_of_ble_eq_true rfl) ?_
      exact kw_sub [0, 1, 2, 3, 4] rfl (w G H d n0 z0 hd)
    · replace w := w.1 hc
      refine kv_p (fun _ _ _ _ _ _ v => vv_icmp_ne (pc := 111) (tgt := 122) d_T_wrongInDeclaration_111 rfl (fun _ => v) (fun hn => absurd hn hc)) ?_
      exact kw_sub [0, 1, 2, 3, 4] rfl (w G H d n0 z0 hd)
  · replace w := w.2 hc
    refine kv_p (fun _ _ _ _ _ _ v => vv_aload_n (pc := 57) d_T_wrongInDeclaration_57 rfl v) ?_
    refine kv_p (fun _ _ _ _ _ _ v => vv_aloadr (pc := 58) d_T_wrongInDeclaration_58 (cp_isr_rf (kr G p4)) rfl v) ?_
    obtain ⟨r6, T4, c5, w⟩ := w
    refine kw_cv (pc := 60) (As := [va_rf (kr G p4)]) d_T_wrongInDeclaration_60 c5 rfl k_T_typeOf ml_T_45 (Or.inl ⟨by decide, rfl⟩) (by omega) (Nat.le_of_ble_eq_true rfl) ?_
    refine kv_p (fun _ _ _ _ _ _ v => vv_istore (pc := 63) d_T_wrongInDeclaration_63 (Nat.le_of_ble_eq_true rfl) v) ?_
    refine kw_lv (lv := [(5, .int r6), (0, .ref (cp_b G + 24)), (1, va_rf (kr G p1)), (2, va_rf (kr G p2)), (3, .int x3), (4, va_rf (kr G p4))]) (by cases kr G p4 <;> rfl) ?_
    refine kv_p (fun _ _ _ _ _ _ v => vv_iload (pc := 65) d_T_wrongInDeclaration_65 rfl v) ?_
    refine kv_p (fun _ _ _ _ _ _ v => vv_iconst (pc := 67) (v := (-1)) d_T_wrongInDeclaration_67 rfl v) ?_
    by_cases hc : (r6 : Int32) = (-1)
    · replace w := w.2 hc
      refine kv_p (fun _ _ _ _ _ _ v => vv_icmp_ne (pc := 68) (tgt := 76) d_T_wrongInDeclaration_68 rfl (fun hn => absurd hc hn) (fun _ => v)) ?_
      refine kv_p (fun _ _ _ _ _ _ v => vv_aload_n (pc := 71) d_T_wrongInDeclaration_71 rfl v) ?_
      refine kw_gi (pc := 72) d_T_wrongInDeclaration_72 fl_T_35 (Or.inl ⟨by decide, rfl⟩) rfl rfl ?_
      obtain ⟨rfl, rfl⟩ := w
      exact kv_e (fun _ _ => vv_iret (pc := 75) d_T_wrongInDeclaration_75 rfl)
    · replace w := w.1 hc
      refine kv_p (fun _ _ _ _ _ _ v => vv_icmp_ne (pc := 68) (tgt := 76) d_T_wrongInDeclaration_68 rfl (fun _ => v) (fun hn => absurd hn hc)) ?_
      refine kv_p (fun _ _ _ _ _ _ v => vv_iload_n (pc := 76) d_T_wrongInDeclaration_76 rfl v) ?_
      by_cases hc : (x3 : Int32) = 0
      · replace w := w.2 hc
        refine kv_p (fun _ _ _ _ _ _ v => vv_if_ne (pc := 77) (tgt := 95) d_T_wrongInDeclaration_77 rfl (fun hn => absurd hc hn) (fun _ => v)) ?_
        refine kv_p (fun _ _ _ _ _ _ v => vv_aload_n (pc := 80) d_T_wrongInDeclaration_80 rfl v) ?_
        refine kv_p (fun _ _ _ _ _ _ v => vv_iload (pc := 81) d_T_wrongInDeclaration_81 rfl v) ?_
        refine kw_cv (pc := 83) (As := [.int r6]) (As0 := (fun G => [.ref (cp_b G + 24), .int r6])) d_T_wrongInDeclaration_83 (C_TisStar) rfl k_T_isStar ml_T_74 (Or.inl ⟨by decide, rfl⟩) (by omega) (Nat.le_of_ble_eq_true rfl) ?_
        by_cases hc : ((if rget T4 7 r6 = 3 then 1 else 0) : Int32) = 0
        · replace w := w.2 hc
          refine kv_p (fun _ _ _ _ _ _ v => vv_if_ne (pc := 86) (tgt := 95) d_T_wrongInDeclaration_86 rfl (fun hn => absurd hc hn) (fun _ => v)) ?_
          refine kv_p (fun _ _ _ _ _ _ v => vv_aloadr (pc := 89) d_T_wrongInDeclaration_89 (cp_isr_rf (kr G p4)) rfl v) ?_
          obtain ⟨b7, w⟩ := w
          refine kw_giN (pc := 91) d_T_wrongInDeclaration_91 fl_T_71 b7 rfl rfl ?_
          obtain ⟨rfl, rfl⟩ := w
          exact kv_e (fun _ _ => vv_iret (pc := 94) d_T_wrongInDeclaration_94 rfl)
        · replace w := w.1 hc
          refine kv_p (fun _ _ _ _ _ _ v => vv_if_ne (pc := 86) (tgt := 95) d_T_wrongInDeclaration_86 rfl (fun _ => v) (fun hn => absurd hn hc)) ?_
          exact kw_sub [1, 2, 3, 4, 5, 0] rfl (w G H d n0 z0 hd)
      · replace w := w.1 hc
        refine kv_p (fun _ _ _ _ _ _ v => vv_if_ne (pc := 77) (tgt := 95) d_T_wrongInDeclaration_77 rfl (fun _ => v) (fun hn => absurd hn hc)) ?_
        exact kw_sub [1, 2, 3, 4, 5, 0] rfl (w G H d n0 z0 hd)
def wp_T_wrongInDeclaration_95 (D : Nat) (o : cp_G → cp_O) (K' K : cp_K) (p1 : Nat) (p2 : Nat) (x3 : Int32) (p4 : Nat) (x5 : Int32) : Prop := nd K p4 9 ∧ JC (D + 8) m_T_wrongInDeclaration o K' 52 (fun G => [(0, .ref (cp_b G + 24)), (1, va_rf (kr G p1)), (2, va_rf (kr G p2)), (3, .int x3), (4, va_rf (kr G (K.2.2.1 p4 6)))]) (fun _ => []) K
theorem b_T_wrongInDeclaration_95 {D : Nat} {o : cp_G → cp_O} {K' K : cp_K} {p1 : Nat} {p2 : Nat} {x3 : Int32} {p4 : Nat} {x5 : Int32} (w : wp_T_wrongInDeclaration_95 D o K' K p1 p2 x3 p4 x5) : JC (D + 8) m_T_wrongInDeclaration o K' 95 (fun G => [(0, .ref (cp_b G + 24)), (1, va_rf (kr G p1)), (2, va_rf (kr G p2)), (3, .int x3), (4, va_rf (kr G p4)), (5, .int x5)]) (fun _ => []) K := by
  unfold wp_T_wrongInDeclaration_95 at w
  intro G H d n0 z0 hd
  show kV G H m_T_wrongInDeclaration d n0 z0 (o G) K' 95 [(0, .ref (cp_b G + 24)), (1, va_rf (kr G p1)), (2, va_rf (kr G p2)), (3, .int x3), (4, va_rf (kr G p4)), (5, .int x5)] [] K
  refine kv_p (fun _ _ _ _ _ _ v => vv_aloadr (pc := 95) d_T_wrongInDeclaration_95 (cp_isr_rf (kr G p4)) rfl v) ?_
  obtain ⟨b1, w⟩ := w
  refine kw_grN (pc := 97) d_T_wrongInDeclaration_97 fl_T_61 b1 rfl rfl ?_
  refine kv_p (fun _ _ _ _ _ _ v => vv_astore (pc := 100) d_T_wrongInDeclaration_100 (cp_isr_rf (kr G (K.2.2.1 p4 6))) (Nat.le_of_ble_eq_true rfl) v) ?_
  refine kv_p (fun _ _ _ _ _ _ v => vv_goto (pc := 102) (tgt := 52) d_T_wrongInDeclaration_102 rfl v) ?_
  exact kw_sub [1, 2, 3, 4, 0] rfl (w G H d n0 z0 hd)
def wp_T_wrongInDeclaration_122 (D : Nat) (o : cp_G → cp_O) (K' K : cp_K) (p1 : Nat) (p2 : Nat) (x3 : Int32) (p4 : Nat) : Prop := nd K p2 9 ∧ JC (D + 8) m_T_wrongInDeclaration o K' 10 (fun G => [(0, .ref (cp_b G + 24)), (1, va_rf (kr G p1)), (2, va_rf (kr G (K.2.2.1 p2 6)))]) (fun _ => []) K
theorem b_T_wrongInDeclaration_122 {D : Nat} {o : cp_G → cp_O} {K' K : cp_K} {p1 : Nat} {p2 : Nat} {x3 : Int32} {p4 : Nat} (w : wp_T_wrongInDeclaration_122 D o K' K p1 p2 x3 p4) : JC (D + 8) m_T_wrongInDeclaration o K' 122 (fun G => [(0, .ref (cp_b G + 24)), (1, va_rf (kr G p1)), (2, va_rf (kr G p2)), (3, .int x3), (4, va_rf (kr G p4))]) (fun _ => []) K := by
  unfold wp_T_wrongInDeclaration_122 at w
  intro G H d n0 z0 hd
  show kV G H m_T_wrongInDeclaration d n0 z0 (o G) K' 122 [(0, .ref (cp_b G + 24)), (1, va_rf (kr G p1)), (2, va_rf (kr G p2)), (3, .int x3), (4, va_rf (kr G p4))] [] K
  refine kv_p (fun _ _ _ _ _ _ v => vv_aload_nr (pc := 122) d_T_wrongInDeclaration_122 (cp_isr_rf (kr G p2)) rfl v) ?_
  obtain ⟨b1, w⟩ := w
  refine kw_grN (pc := 123) d_T_wrongInDeclaration_123 fl_T_61 b1 rfl rfl ?_
  refine kv_p (fun _ _ _ _ _ _ v => vv_astore_n (pc := 126) d_T_wrongInDeclaration_126 (cp_isr_rf (kr G (K.2.2.1 p2 6))) (Nat.le_of_ble_eq_true rfl) v) ?_
  refine kw_lv (lv := [(2, va_rf (kr G (K.2.2.1 p2 6))), (0, .ref (cp_b G + 24)), (1, va_rf (kr G p1)), (3, .int x3), (4, va_rf (kr G p4))]) (by cases kr G p1 <;> rfl) ?_
  refine kv_p (fun _ _ _ _ _ _ v => vv_goto (pc := 127) (tgt := 10) d_T_wrongInDeclaration_127 rfl v) ?_
  exact kw_sub [1, 2, 0] rfl (w G H d n0 z0 hd)
def wp_T_typeOf_0 (D : Nat) (o : cp_G → cp_O) (K' K : cp_K) (p1 : Nat) : Prop := nd K p1 9 ∧ (((K.2.1 p1 0) = (1 : Int32) → rsz K 7 + 2 < k_lim 7 ∧ rsz (kI (mks K 1 (K.2.1 p1 1)) 24 7 (nI (rsz K 7))) 7 + 2 < k_lim 7 ∧ (o = (fun _ => .inl (some (.int (nI (rsz (kI (mks K 1 (K.2.1 p1 1)) 24 7 (nI (rsz K 7))) 7))))) ∧ K' = (mks (kI (mks K 1 (K.2.1 p1 1)) 24 7 (nI (rsz K 7))) 2 0))) ∧ ((K.2.1 p1 0) = (2 : Int32) → rsz K 7 + 2 < k_lim 7 ∧ rsz (kI (mks K (K.2.1 p1 0) 0) 24 7 (nI (rsz K 7))) 7 + 2 < k_lim 7 ∧ (o = (fun _ => .inl (some (.int (nI (rsz (kI (mks K (K.2.1 p1 0) 0) 24 7 (nI (rsz K 7))) 7))))) ∧ K' = (mks (kI (mks K (K.2.1 p1 0) 0) 24 7 (nI (rsz K 7))) 3 0))) ∧ ((K.2.1 p1 0) = (3 : Int32) → rsz K 7 + 2 < k_lim 7 ∧ rsz (kI (mks K (K.2.1 p1 0) 0) 24 7 (nI (rsz K 7))) 7 + 2 < k_lim 7 ∧ (o = (fun _ => .inl (some (.int (nI (rsz (kI (mks K (K.2.1 p1 0) 0) 24 7 (nI (rsz K 7))) 7))))) ∧ K' = (mks (kI (mks K (K.2.1 p1 0) 0) 24 7 (nI (rsz K 7))) 3 0))) ∧ ((K.2.1 p1 0) = (4 : Int32) → (o = (fun _ => .inl (some (.int (-1)))) ∧ K' = (kI K 24 6 (K.2.1 p1 2)))) ∧ ((K.2.1 p1 0) = (5 : Int32) → ∃ r10 T8, KC (D + 7) m_T_typeOfVariable (fun G => [.ref (cp_b G + 24), va_rf (kr G p1)]) K (fun _ => some (.int r10)) T8 ∧ (o = (fun _ => .inl (some (.int r10))) ∧ K' = T8)) ∧ ((K.2.1 p1 0) = (6 : Int32) → ∃ r13 T11, KC (D + 7) m_T_typeOfConstant (fun G => [.ref (cp_b G + 24), va_rf (kr G p1)]) K (fun _ => some (.int r13)) T11 ∧ (o = (fun _ => .inl (some (.int r13))) ∧ K' = T11)) ∧ ((∀ c ∈ ([1, 2, 3, 4, 5, 6] : List Int32), ¬ (K.2.1 p1 0) = c) → (o = (fun _ => .inl (some (.int (-1)))) ∧ K' = (kI K 24 6 (K.2.1 p1 2)))))
theorem b_T_typeOf_0 {D : Nat} {o : cp_G → cp_O} {K' K : cp_K} {p1 : Nat} (w : wp_T_typeOf_0 D o K' K p1) : JC (D + 8) m_T_typeOf o K' 0 (fun G => [(0, .ref (cp_b G + 24)), (1, va_rf (kr G p1))]) (fun _ => []) K := by
  unfold wp_T_typeOf_0 at w
  intro G H d n0 z0 hd
  show kV G H m_T_typeOf d n0 z0 (o G) K' 0 [(0, .ref (cp_b G + 24)), (1, va_rf (kr G p1))] [] K
  refine kv_p (fun _ _ _ _ _ _ v => vv_aload_nr (pc := 0) d_T_typeOf_0 (cp_isr_rf (kr G p1)) rfl v) ?_
  obtain ⟨b1, w⟩ := w
  refine kw_giN (pc := 1) d_T_typeOf_1 fl_T_64 b1 rfl rfl ?_
  by_cases e4_0 : (K.2.1 p1 0) = (1 : Int32)
  · replace w := w.1 e4_0
    refine kw_topi (y := 1) e4_0 ?_
    refine kv_p (fun _ _ _ _ _ _ v => vv_tableIn (pc := 4) (off := 40) (tgt := 44) d_T_typeOf_4 (by decide +kernel) (by decide +kernel) (by decide +kernel) rfl v) ?_
    refine kv_p (fun _ _ _ _ _ _ v => vv_aload_n (pc := 44) d_T_typeOf_44 rfl v) ?_
    refine kv_p (fun _ _ _ _ _ _ v => vv_aload_n (pc := 45) d_T_typeOf_45 rfl v) ?_
    refine kw_gf (pc := 46) 6 d_T_typeOf_46 fl_T_15 (Or.inl ⟨by decide, rfl⟩) rfl (by decide) ?_
    refine kv_p (fun _ _ _ _ _ _ v => vv_iconst (pc := 49) (v := 1) d_T_typeOf_49 rfl v) ?_
    refine kv_p (fun _ _ _ _ _ _ v => vv_aload_nr (pc := 50) d_T_typeOf_50 (cp_isr_rf (kr G p1)) rfl v) ?_
    refine kw_giN (pc := 51) d_T_typeOf_51 fl_T_78 b1 rfl rfl ?_
    obtain ⟨b2, w⟩ := w
    refine kw_cv (pc := 54) (As := [.int 1, .int (K.2.1 p1 1)]) (As0 := (fun G => [.ref (cp_b G + 6), .int 1, .int (K.2.1 p1 1)])) d_T_typeOf_54 (C_VmakeSimple b2) rfl k_V_makeSimple ml_T_118 (Or.inl ⟨by decide, rfl⟩) (by omega) (Nat.le_of_ble_eq_true rfl) ?_
    refine kw_pi (pc := 57) d_T_typeOf_57 fl_T_38 (Or.inl ⟨by decide, rfl⟩) rfl rfl rfl rfl rfl ?_
    refine kv_p (fun _ _ _ _ _ _ v => vv_aload_n (pc := 60) d_T_typeOf_60 rfl v) ?_
    refine kw_gf (pc := 61) 6 d_T_typeOf_61 fl_T_15 (Or.inl ⟨by decide, rfl⟩) rfl (by decide) ?_
    refine kv_p (fun _ _ _ _ _ _ v => vv_iconst (pc := 64) (v := 2) d_T_typeOf_64 rfl v) ?_
    refine kv_p (fun _ _ _ _ _ _ v => vv_iconst (pc := 65) (v := 0) d_T_typeOf_65 rfl v) ?_
    obtain ⟨b3, w⟩ := w
    refine kw_cv (pc := 66) (As := [.int 2, .int 0]) (As0 := (fun G => [.ref (cp_b G + 6), .int 2, .int 0])) d_T_typeOf_66 (C_VmakeSimple b3) rfl k_V_makeSimple ml_T_118 (Or.inl ⟨by decide, rfl⟩) (by omega) (Nat.le_of_ble_eq_true rfl) ?_
    obtain ⟨rfl, rfl⟩ := w
    exact kv_e (fun _ _ => vv_iret (pc := 69) d_T_typeOf_69 rfl)
  by_cases e4_1 : (K.2.1 p1 0) = (2 : Int32)
  · replace w := w.2.1 e4_1
    refine kw_topi (y := 2) e4_1 ?_
    refine kv_p (fun _ _ _ _ _ _ v => vv_tableIn (pc := 4) (off := 66) (tgt := 70) d_T_typeOf_4 (by decide +kernel) (by decide +kernel) (by decide +kernel) rfl v) ?_
    refine kv_p (fun _ _ _ _ _ _ v => vv_aload_n (pc := 70) d_T_typeOf_70 rfl v) ?_
    refine kv_p (fun _ _ _ _ _ _ v => vv_aload_n (pc := 71) d_T_typeOf_71 rfl v) ?_
    refine kw_gf (pc := 72) 6 d_T_typeOf_72 fl_T_15 (Or.inl ⟨by decide, rfl⟩) rfl (by decide) ?_
    refine kv_p (fun _ _ _ _ _ _ v => vv_aload_nr (pc := 75) d_T_typeOf_75 (cp_isr_rf (kr G p1)) rfl v) ?_
    refine kw_giN (pc := 76) d_T_typeOf_76 fl_T_64 b1 rfl rfl ?_
    refine kv_p (fun _ _ _ _ _ _ v => vv_iconst (pc := 79) (v := 0) d_T_typeOf_79 rfl v) ?_
    obtain ⟨b4, w⟩ := w
    refine kw_cv (pc := 80) (As := [.int (K.2.1 p1 0), .int 0]) (As0 := (fun G => [.ref (cp_b G + 6), .int (K.2.1 p1 0), .int 0])) d_T_typeOf_80 (C_VmakeSimple b4) rfl k_V_makeSimple ml_T_118 (Or.inl ⟨by decide, rfl⟩) (by omega) (Nat.le_of_ble_eq_true rfl) ?_
    refine kw_pi (pc := 83) d_T_typeOf_83 fl_T_38 (Or.inl ⟨by decide, rfl⟩) rfl rfl rfl rfl rfl ?_
    refine kv_p (fun _ _ _ _ _ _ v => vv_aload_n (pc := 86) d_T_typeOf_86 rfl v) ?_
    refine kw_gf (pc := 87) 6 d_T_typeOf_87 fl_T_15 (Or.inl ⟨by decide, rfl⟩) rfl (by decide) ?_
    refine kv_p (fun _ _ _ _ _ _ v => vv_iconst (pc := 90) (v := 3) d_T_typeOf_90 rfl v) ?_
    refine kv_p (fun _ _ _ _ _ _ v => vv_iconst (pc := 91) (v := 0) d_T_typeOf_91 rfl v) ?_
    obtain ⟨b5, w⟩ := w
    refine kw_cv (pc := 92) (As := [.int 3, .int 0]) (As0 := (fun G => [.ref (cp_b G + 6), .int 3, .int 0])) d_T_typeOf_92 (C_VmakeSimple b5) rfl k_V_makeSimple ml_T_118 (Or.inl ⟨by decide, rfl⟩) (by omega) (Nat.le_of_ble_eq_true rfl) ?_
    obtain ⟨rfl, rfl⟩ := w
    exact kv_e (fun _ _ => vv_iret (pc := 95) d_T_typeOf_95 rfl)
  by_cases e4_2 : (K.2.1 p1 0) = (3 : Int32)
  · replace w := w.2.2.1 e4_2
    refine kw_topi (y := 3) e4_2 ?_
    refine kv_p (fun _ _ _ _ _ _ v => vv_tableIn (pc := 4) (off := 66) (tgt := 70) d_T_typeOf_4 (by decide +kernel) (by decide +kernel) (by decide +kernel) rfl v) ?_
    refine kv_p (fun _ _ _ _ _ _ v => vv_aload_n (pc := 70) d_T_typeOf_70 rfl v) ?_
    refine kv_p (fun _ _ _ _ _ _ v => vv_aload_n (pc := 71) d_T_typeOf_71 rfl v) ?_
    refine kw_gf (pc := 72) 6 d_T_typeOf_72 fl_T_15 (Or.inl ⟨by decide, rfl⟩) rfl (by decide) ?_
    refine kv_p (fun _ _ _ _ _ _ v => vv_aload_nr (pc := 75) d_T_typeOf_75 (cp_isr_rf (kr G p1)) rfl v) ?_
    refine kw_giN (pc := 76) d_T_typeOf_76 fl_T_64 b1 rfl rfl ?_
    refine kv_p (fun _ _ _ _ _ _ v => vv_iconst (pc := 79) (v := 0) d_T_typeOf_79 rfl v) ?_
    obtain ⟨b6, w⟩ := w
    refine kw_cv (pc := 80) (As := [.int (K.2.1 p1 0), .int 0]) (As0 := (fun G => [.ref (cp_b G + 6), .int (K.2.1 p1 0), .int 0])) d_T_typeOf_80 (C_VmakeSimple b6) rfl k_V_makeSimple ml_T_118 (Or.inl ⟨by decide, rfl⟩) (by omega) (Nat.le_of_ble_eq_true rfl) ?_
    refine kw_pi (pc := 83) d_T_typeOf_83 fl_T_38 (Or.inl ⟨by decide, rfl⟩) rfl rfl rfl rfl rfl ?_
    refine kv_p (fun _ _ _ _ _ _ v => vv_aload_n (pc := 86) d_T_typeOf_86 rfl v) ?_
    refine kw_gf (pc := 87) 6 d_T_typeOf_87 fl_T_15 (Or.inl ⟨by decide, rfl⟩) rfl (by decide) ?_
    refine kv_p (fun _ _ _ _ _ _ v => vv_iconst (pc := 90) (v := 3) d_T_typeOf_90 rfl v) ?_
    refine kv_p (fun _ _ _ _ _ _ v => vv_iconst (pc := 91) (v := 0) d_T_typeOf_91 rfl v) ?_
    obtain ⟨b7, w⟩ := w
    refine kw_cv (pc := 92) (As := [.int 3, .int 0]) (As0 := (fun G => [.ref (cp_b G + 6), .int 3, .int 0])) d_T_typeOf_92 (C_VmakeSimple b7) rfl k_V_makeSimple ml_T_118 (Or.inl ⟨by decide, rfl⟩) (by omega) (Nat.le_of_ble_eq_true rfl) ?_
    obtain ⟨rfl, rfl⟩ := w
    exact kv_e (fun _ _ => vv_iret (pc := 95) d_T_typeOf_95 rfl)
  by_cases e4_3 : (K.2.1 p1 0) = (4 : Int32)
  · replace w := w.2.2.2.1 e4_3
    refine kw_topi (y := 4) e4_3 ?_
    refine kv_p (fun _ _ _ _ _ _ v => vv_tableIn (pc := 4) (off := 104) (tgt := 108) d_T_typeOf_4 (by decide +kernel) (by decide +kernel) (by decide +kernel) rfl v) ?_
    refine kv_p (fun _ _ _ _ _ _ v => vv_aload_n (pc := 108) d_T_typeOf_108 rfl v) ?_
    refine kv_p (fun _ _ _ _ _ _ v => vv_aload_nr (pc := 109) d_T_typeOf_109 (cp_isr_rf (kr G p1)) rfl v) ?_
    refine kw_giN (pc := 110) d_T_typeOf_110 fl_T_71 b1 rfl rfl ?_
    refine kw_cv (pc := 113) (As := [.int (K.2.1 p1 2)]) (As0 := (fun G => [.ref (cp_b G + 24), .int (K.2.1 p1 2)])) d_T_typeOf_113 (C_TnoType) rfl k_T_noType ml_T_128 (Or.inl ⟨by decide, rfl⟩) (by omega) (Nat.le_of_ble_eq_true rfl) ?_
    obtain ⟨rfl, rfl⟩ := w
    exact kv_e (fun _ _ => vv_iret (pc := 116) d_T_typeOf_116 rfl)
  by_cases e4_4 : (K.2.1 p1 0) = (5 : Int32)
  · replace w := w.2.2.2.2.1 e4_4
    refine kw_topi (y := 5) e4_4 ?_
    refine kv_p (fun _ _ _ _ _ _ v => vv_tableIn (pc := 4) (off := 92) (tgt := 96) d_T_typeOf_4 (by decide +kernel) (by decide +kernel) (by decide +kernel) rfl v) ?_
    refine kv_p (fun _ _ _ _ _ _ v => vv_aload_n (pc := 96) d_T_typeOf_96 rfl v) ?_
    refine kv_p (fun _ _ _ _ _ _ v => vv_aload_nr (pc := 97) d_T_typeOf_97 (cp_isr_rf (kr G p1)) rfl v) ?_
    obtain ⟨r10, T8, c9, w⟩ := w
    refine kw_cv (pc := 98) (As := [va_rf (kr G p1)]) d_T_typeOf_98 c9 rfl k_T_typeOfVariable ml_T_122 (Or.inl ⟨by decide, rfl⟩) (by omega) (Nat.le_of_ble_eq_true rfl) ?_
    obtain ⟨rfl, rfl⟩ := w
    exact kv_e (fun _ _ => vv_iret (pc := 101) d_T_typeOf_101 rfl)
  by_cases e4_5 : (K.2.1 p1 0) = (6 : Int32)
  · replace w := w.2.2.2.2.2.1 e4_5
    refine kw_topi (y := 6) e4_5 ?_
    refine kv_p (fun _ _ _ _ _ _ v => vv_tableIn (pc := 4) (off := 98) (tgt := 102) d_T_typeOf_4 (by decide +kernel) (by decide +kernel) (by decide +kernel) rfl v) ?_
    refine kv_p (fun _ _ _ _ _ _ v => vv_aload_n (pc := 102) d_T_typeOf_102 rfl v) ?_
    refine kv_p (fun _ _ _ _ _ _ v => vv_aload_nr (pc := 103) d_T_typeOf_103 (cp_isr_rf (kr G p1)) rfl v) ?_
    obtain ⟨r13, T11, c12, w⟩ := w
    refine kw_cv (pc := 104) (As := [va_rf (kr G p1)]) d_T_typeOf_104 c12 rfl k_T_typeOfConstant ml_T_125 (Or.inl ⟨by decide, rfl⟩) (by omega) (Nat.le_of_ble_eq_true rfl) ?_
    obtain ⟨rfl, rfl⟩ := w
    exact kv_e (fun _ _ => vv_iret (pc := 107) d_T_typeOf_107 rfl)
  have hx : ∀ c ∈ ([1, 2, 3, 4, 5, 6] : List Int32), ¬ (K.2.1 p1 0) = c := by
    intro c hc
    simp only [List.mem_cons, List.not_mem_nil, or_false] at hc
    rcases hc with rfl | rfl | rfl | rfl | rfl | rfl
    · exact e4_0
    · exact e4_1
    · exact e4_2
    · exact e4_3
    · exact e4_4
    · exact e4_5
  replace w := w.2.2.2.2.2.2 hx
  refine kv_p (fun _ _ _ _ _ _ v => vv_tableOut (pc := 4) (tgt := 108) d_T_typeOf_4 (cp_swout 1 6 ([1, 2, 3, 4, 5, 6] : List Int32) hx (by decide +kernel)) rfl v) ?_
  refine kv_p (fun _ _ _ _ _ _ v => vv_aload_n (pc := 108) d_T_typeOf_108 rfl v) ?_
  refine kv_p (fun _ _ _ _ _ _ v => vv_aload_nr (pc := 109) d_T_typeOf_109 (cp_isr_rf (kr G p1)) rfl v) ?_
  refine kw_giN (pc := 110) d_T_typeOf_110 fl_T_71 b1 rfl rfl ?_
  refine kw_cv (pc := 113) (As := [.int (K.2.1 p1 2)]) (As0 := (fun G => [.ref (cp_b G + 24), .int (K.2.1 p1 2)])) d_T_typeOf_113 (C_TnoType) rfl k_T_noType ml_T_128 (Or.inl ⟨by decide, rfl⟩) (by omega) (Nat.le_of_ble_eq_true rfl) ?_
  obtain ⟨rfl, rfl⟩ := w
  exact kv_e (fun _ _ => vv_iret (pc := 116) d_T_typeOf_116 rfl)
theorem c_T_typeOf {D : Nat} {o : cp_G → Option Value} {K' K : cp_K} {p1 : Nat} (w : wp_T_typeOf_0 D (fun G => .inl (o G)) K' K p1) : KC (D + 8) m_T_typeOf (fun G => [.ref (cp_b G + 24), va_rf (kr G p1)]) K o K' := KC.of2 rfl (fun G => by cases kr G p1 <;> exact ⟨Nat.le_of_ble_eq_true rfl, rfl⟩) (b_T_typeOf_0 w)
def wp_T_typeOfVariable_0 (D : Nat) (o : cp_G → cp_O) (K' K : cp_K) (p1 : Nat) : Prop := nd K p1 9 ∧ ∃ r4 T2, KC (D + 7) m_B_indexOf (fun G => [.ref (cp_b G + 14), .int (K.2.1 p1 1), .int 0, .int (K.2.1 24 5)]) K (fun _ => some (.int r4)) T2 ∧ ((¬ (r4 : Int32) = (-1) → (o = (fun _ => .inl (some (.int (rget (kI T2 24 7 (rget T2 17 r4)) 19 r4)))) ∧ K' = (kI T2 24 7 (rget T2 17 r4)))) ∧ ((r4 : Int32) = (-1) → nd T2 p1 9 ∧ (o = (fun _ => .inl (some (.int (-1)))) ∧ K' = (kI T2 24 6 (T2.2.1 p1 2)))))
theorem b_T_typeOfVariable_0 {D : Nat} {o : cp_G → cp_O} {K' K : cp_K} {p1 : Nat} (w : wp_T_typeOfVariable_0 D o K' K p1) : JC (D + 8) m_T_typeOfVariable o K' 0 (fun G => [(0, .ref (cp_b G + 24)), (1, va_rf (kr G p1))]) (fun _ => []) K := by
  unfold wp_T_typeOfVariable_0 at w
  intro G H d n0 z0 hd
  show kV G H m_T_typeOfVariable d n0 z0 (o G) K' 0 [(0, .ref (cp_b G + 24)), (1, va_rf (kr G p1))] [] K
  refine kv_p (fun _ _ _ _ _ _ v => vv_aload_n (pc := 0) d_T_typeOfVariable_0 rfl v) ?_
  refine kw_gf (pc := 1) 14 d_T_typeOfVariable_1 fl_T_19 (Or.inl ⟨by decide, rfl⟩) rfl (by decide) ?_
  refine kv_p (fun _ _ _ _ _ _ v => vv_aload_nr (pc := 4) d_T_typeOfVariable_4 (cp_isr_rf (kr G p1)) rfl v) ?_
  obtain ⟨b1, w⟩ := w
  refine kw_giN (pc := 5) d_T_typeOfVariable_5 fl_T_78 b1 rfl rfl ?_
  refine kv_p (fun _ _ _ _ _ _ v => vv_iconst (pc := 8) (v := 0) d_T_typeOfVariable_8 rfl v) ?_
  refine kv_p (fun _ _ _ _ _ _ v => vv_aload_n (pc := 9) d_T_typeOfVariable_9 rfl v) ?_
  refine kw_gi (pc := 10) d_T_typeOfVariable_10 fl_T_31 (Or.inl ⟨by decide, rfl⟩) rfl rfl ?_
  obtain ⟨r4, T2, c3, w⟩ := w
  refine kw_cv (pc := 13) (As := [.int (K.2.1 p1 1), .int 0, .int (K.2.1 24 5)]) d_T_typeOfVariable_13 c3 rfl k_B_indexOf ml_T_131 (Or.inl ⟨by decide, rfl⟩) (by omega) (Nat.le_of_ble_eq_true rfl) ?_
  refine kv_p (fun _ _ _ _ _ _ v => vv_istore_n (pc := 16) d_T_typeOfVariable_16 (Nat.le_of_ble_eq_true rfl) v) ?_
  refine kw_lv (lv := [(2, .int r4), (0, .ref (cp_b G + 24)), (1, va_rf (kr G p1))]) (by cases kr G p1 <;> rfl) ?_
  refine kv_p (fun _ _ _ _ _ _ v => vv_iload_n (pc := 17) d_T_typeOfVariable_17 rfl v) ?_
  refine kv_p (fun _ _ _ _ _ _ v => vv_iconst (pc := 18) (v := (-1)) d_T_typeOfVariable_18 rfl v) ?_
  by_cases hc : (r4 : Int32) = (-1)
  · replace w := w.2 hc
    refine kv_p (fun _ _ _ _ _ _ v => vv_icmp_ne (pc := 19) (tgt := 31) d_T_typeOfVariable_19 rfl (fun hn => absurd hc hn) (fun _ => v)) ?_
    refine kv_p (fun _ _ _ _ _ _ v => vv_aload_n (pc := 22) d_T_typeOfVariable_22 rfl v) ?_
    refine kv_p (fun _ _ _ _ _ _ v => vv_aload_nr (pc := 23) d_T_typeOfVariable_23 (cp_isr_rf (kr G p1)) rfl v) ?_
    obtain ⟨b5, w⟩ := w
    refine kw_giN (pc := 24) d_T_typeOfVariable_24 fl_T_71 b5 rfl rfl ?_
    refine kw_cv (pc := 27) (As := [.int (T2.2.1 p1 2)]) (As0 := (fun G => [.ref (cp_b G + 24), .int (T2.2.1 p1 2)])) d_T_typeOfVariable_27 (C_TnoType) rfl k_T_noType ml_T_128 (Or.inl ⟨by decide, rfl⟩) (by omega) (Nat.le_of_ble_eq_true rfl) ?_
    obtain ⟨rfl, rfl⟩ := w
    exact kv_e (fun _ _ => vv_iret (pc := 30) d_T_typeOfVariable_30 rfl)
  · replace w := w.1 hc
    refine kv_p (fun _ _ _ _ _ _ v => vv_icmp_ne (pc := 19) (tgt := 31) d_T_typeOfVariable_19 rfl (fun _ => v) (fun hn => absurd hn hc)) ?_
    refine kv_p (fun _ _ _ _ _ _ v => vv_aload_n (pc := 31) d_T_typeOfVariable_31 rfl v) ?_
    refine kv_p (fun _ _ _ _ _ _ v => vv_aload_n (pc := 32) d_T_typeOfVariable_32 rfl v) ?_
    refine kw_gf (pc := 33) 14 d_T_typeOfVariable_33 fl_T_19 (Or.inl ⟨by decide, rfl⟩) rfl (by decide) ?_
    refine kv_p (fun _ _ _ _ _ _ v => vv_iload_n (pc := 36) d_T_typeOfVariable_36 rfl v) ?_
    refine kw_cv (pc := 37) (As := [.int r4]) (As0 := (fun G => [.ref (cp_b G + 14), .int r4])) d_T_typeOfVariable_37 (C_BvalueAt) rfl k_B_valueAt ml_T_135 (Or.inl ⟨by decide, rfl⟩) (by omega) (Nat.le_of_ble_eq_true rfl) ?_
    refine kw_pi (pc := 40) d_T_typeOfVariable_40 fl_T_38 (Or.inl ⟨by decide, rfl⟩) rfl rfl rfl rfl rfl ?_
    refine kv_p (fun _ _ _ _ _ _ v => vv_aload_n (pc := 43) d_T_typeOfVariable_43 rfl v) ?_
    refine kw_gf (pc := 44) 14 d_T_typeOfVariable_44 fl_T_19 (Or.inl ⟨by decide, rfl⟩) rfl (by decide) ?_
    refine kv_p (fun _ _ _ _ _ _ v => vv_iload_n (pc := 47) d_T_typeOfVariable_47 rfl v) ?_
    refine kw_cv (pc := 48) (As := [.int r4]) (As0 := (fun G => [.ref (cp_b G + 14), .int r4])) d_T_typeOfVariable_48 (C_BtypeAt) rfl k_B_typeAt ml_T_138 (Or.inl ⟨by decide, rfl⟩) (by omega) (Nat.le_of_ble_eq_true rfl) ?_
    obtain ⟨rfl, rfl⟩ := w
    exact kv_e (fun _ _ => vv_iret (pc := 51) d_T_typeOfVariable_51 rfl)
theorem c_T_typeOfVariable {D : Nat} {o : cp_G → Option Value} {K' K : cp_K} {p1 : Nat} (w : wp_T_typeOfVariable_0 D (fun G => .inl (o G)) K' K p1) : KC (D + 8) m_T_typeOfVariable (fun G => [.ref (cp_b G + 24), va_rf (kr G p1)]) K o K' := KC.of2 rfl (fun G => by cases kr G p1 <;> exact ⟨Nat.le_of_ble_eq_true rfl, rfl⟩) (b_T_typeOfVariable_0 w)
def wp_T_typeOfConstant_0 (D : Nat) (o : cp_G → cp_O) (K' K : cp_K) (p1 : Nat) : Prop := nd K p1 9 ∧ (¬ dfind K (K.2.1 p1 1) = 0 → nd K (dfind K (K.2.1 p1 1)) 10) ∧ (((dfc K p1) = (0 : Nat) → (o = (fun _ => .inl (some (.int (-1)))) ∧ K' = (kI K 24 6 (K.2.1 p1 2)))) ∧ (¬ (dfc K p1) = (0 : Nat) → ((((K.2.1 24 4) : Int32) = 0 → JC (D + 8) m_T_typeOfConstant o K' 36 (fun G => [(0, .ref (cp_b G + 24)), (1, va_rf (kr G p1)), (2, va_rf (kr G (dfc K p1)))]) (fun _ => []) K) ∧ (¬ ((K.2.1 24 4) : Int32) = 0 → nd K (dfc K p1) 10 ∧ ((((K.2.1 (dfc K p1) 3) : Int32) = 0 → JC (D + 8) m_T_typeOfConstant o K' 36 (fun G => [(0, .ref (cp_b G + 24)), (1, va_rf (kr G p1)), (2, va_rf (kr G (dfc K p1)))]) (fun _ => []) K) ∧ (¬ ((K.2.1 (dfc K p1) 3) : Int32) = 0 → (o = (fun _ => .inl (some (.int (-1)))) ∧ K' = (kI K 24 6 (K.2.1 p1 2)))))))))
theorem b_T_typeOfConstant_0 {D : Nat} {o : cp_G → cp_O} {K' K : cp_K} {p1 : Nat} (w : wp_T_typeOfConstant_0 D o K' K p1) : JC (D + 8) m_T_typeOfConstant o K' 0 (fun G => [(0, .ref (cp_b G + 24)), (1, va_rf (kr G p1))]) (fun _ => []) K := by
  unfold wp_T_typeOfConstant_0 at w
  intro G H d n0 z0 hd
  show kV G H m_T_typeOfConstant d n0 z0 (o G) K' 0 [(0, .ref (cp_b G + 24)), (1, va_rf (kr G p1))] [] K
  refine kv_p (fun _ _ _ _ _ _ v => vv_aload_n (pc := 0) d_T_typeOfConstant_0 rfl v) ?_
  refine kw_gf (pc := 1) 3 d_T_typeOfConstant_1 fl_T_9 (Or.inl ⟨by decide, rfl⟩) rfl (by decide) ?_
  refine kv_p (fun _ _ _ _ _ _ v => vv_aload_nr (pc := 4) d_T_typeOfConstant_4 (cp_isr_rf (kr G p1)) rfl v) ?_
  obtain ⟨b1, w⟩ := w
  obtain ⟨b2, w⟩ := w
  refine kw_cv (pc := 5) (As := [va_rf (kr G p1)]) (As0 := (fun G => [.ref (cp_b G + 3), va_rf (kr G p1)])) d_T_typeOfConstant_5 (C_DfindConstant b1 b2) rfl k_D_findConstant ml_T_141 (Or.inl ⟨by decide, rfl⟩) (by omega) (Nat.le_of_ble_eq_true rfl) ?_
  refine kv_p (fun _ _ _ _ _ _ v => vv_astore_n (pc := 8) d_T_typeOfConstant_8 (cp_isr_rf (kr G (dfc K p1))) (Nat.le_of_ble_eq_true rfl) v) ?_
  refine kw_lv (lv := [(2, va_rf (kr G (dfc K p1))), (0, .ref (cp_b G + 24)), (1, va_rf (kr G p1))]) (by cases kr G p1 <;> rfl) ?_
  refine kv_p (fun _ _ _ _ _ _ v => vv_aload_nr (pc := 9) d_T_typeOfConstant_9 (cp_isr_rf (kr G (dfc K p1))) rfl v) ?_
  refine kw_ifnull (pc := 10) (tgt := 27) d_T_typeOfConstant_10 rfl (fun hc => ?_) (fun hc => ?_)
  · replace w := w.1 hc
    refine kv_p (fun _ _ _ _ _ _ v => vv_aload_n (pc := 27) d_T_typeOfConstant_27 rfl v) ?_
    refine kv_p (fun _ _ _ _ _ _ v => vv_aload_nr (pc := 28) d_T_typeOfConstant_28 (cp_isr_rf (kr G p1)) rfl v) ?_
    refine kw_giN (pc := 29) d_T_typeOfConstant_29 fl_T_71 b1 rfl rfl ?_
    refine kw_cv (pc := 32) (As := [.int (K.2.1 p1 2)]) (As0 := (fun G => [.ref (cp_b G + 24), .int (K.2.1 p1 2)])) d_T_typeOfConstant_32 (C_TnoType) rfl k_T_noType ml_T_128 (Or.inl ⟨by decide, rfl⟩) (by omega) (Nat.le_of_ble_eq_true rfl) ?_
    obtain ⟨rfl, rfl⟩ := w
    exact kv_e (fun _ _ => vv_iret (pc := 35) d_T_typeOfConstant_35 rfl)
  · replace w := w.2 hc
    refine kv_p (fun _ _ _ _ _ _ v => vv_aload_n (pc := 13) d_T_typeOfConstant_13 rfl v) ?_
    refine kw_gi (pc := 14) d_T_typeOfConstant_14 fl_T_27 (Or.inl ⟨by decide, rfl⟩) rfl rfl ?_
    by_cases hc : ((K.2.1 24 4) : Int32) = 0
    · replace w := w.1 hc
      refine kv_p (fun _ _ _ _ _ _ v => vv_if_eq (pc := 17) (tgt := 36) d_T_typeOfConstant_17 rfl (fun _ => v) (fun hn => absurd hc hn)) ?_
      exact kw_sub [1, 2, 0] rfl (w G H d n0 z0 hd)
    · replace w := w.2 hc
      refine kv_p (fun _ _ _ _ _ _ v => vv_if_eq (pc := 17) (tgt := 36) d_T_typeOfConstant_17 rfl (fun hn => absurd hn hc) (fun _ => v)) ?_
      refine kv_p (fun _ _ _ _ _ _ v => vv_aload_nr (pc := 20) d_T_typeOfConstant_20 (cp_isr_rf (kr G (dfc K p1))) rfl v) ?_
      obtain ⟨b3, w⟩ := w
      refine kw_giN (pc := 21) d_T_typeOfConstant_21 fl_T_145 b3 rfl rfl ?_
      by_cases hc : ((K.2.1 (dfc K p1) 3) : Int32) = 0
      · replace w := w.1 hc
        refine kv_p (fun _ _ _ _ _ _ v => vv_if_eq (pc := 24) (tgt := 36) d_T_typeOfConstant_24 rfl (fun _ => v) (fun hn => absurd hc hn)) ?_
        exact kw_sub [1, 2, 0] rfl (w G H d n0 z0 hd)
      · replace w := w.2 hc
        refine kv_p (fun _ _ _ _ _ _ v => vv_if_eq (pc := 24) (tgt := 36) d_T_typeOfConstant_24 rfl (fun hn => absurd hn hc) (fun _ => v)) ?_
        refine kv_p (fun _ _ _ _ _ _ v => vv_aload_n (pc := 27) d_T_typeOfConstant_27 rfl v) ?_
        refine kv_p (fun _ _ _ _ _ _ v => vv_aload_nr (pc := 28) d_T_typeOfConstant_28 (cp_isr_rf (kr G p1)) rfl v) ?_
        refine kw_giN (pc := 29) d_T_typeOfConstant_29 fl_T_71 b1 rfl rfl ?_
        refine kw_cv (pc := 32) (As := [.int (K.2.1 p1 2)]) (As0 := (fun G => [.ref (cp_b G + 24), .int (K.2.1 p1 2)])) d_T_typeOfConstant_32 (C_TnoType) rfl k_T_noType ml_T_128 (Or.inl ⟨by decide, rfl⟩) (by omega) (Nat.le_of_ble_eq_true rfl) ?_
        obtain ⟨rfl, rfl⟩ := w
        exact kv_e (fun _ _ => vv_iret (pc := 35) d_T_typeOfConstant_35 rfl)
theorem c_T_typeOfConstant {D : Nat} {o : cp_G → Option Value} {K' K : cp_K} {p1 : Nat} (w : wp_T_typeOfConstant_0 D (fun G => .inl (o G)) K' K p1) : KC (D + 8) m_T_typeOfConstant (fun G => [.ref (cp_b G + 24), va_rf (kr G p1)]) K o K' := KC.of2 rfl (fun G => by cases kr G p1 <;> exact ⟨Nat.le_of_ble_eq_true rfl, rfl⟩) (b_T_typeOfConstant_0 w)
def wp_T_typeOfConstant_36 (D : Nat) (o : cp_G → cp_O) (K' K : cp_K) (p1 : Nat) (p2 : Nat) : Prop := nd K p1 9 ∧ nd K p2 10 ∧ nd K (K.2.2.1 p2 4) 9 ∧ JC (D + 8) m_T_typeOfConstant o K' 59 (fun G => [(0, .ref (cp_b G + 24)), (1, va_rf (kr G p1)), (2, va_rf (kr G p2)), (3, .int (nI (rsz K 15))), (4, va_rf (kr G (K.2.2.1 p1 4))), (5, va_rf (kr G (K.2.2.1 (K.2.2.1 p2 4) 4)))]) (fun _ => []) K
theorem b_T_typeOfConstant_36 {D : Nat} {o : cp_G → cp_O} {K' K : cp_K} {p1 : Nat} {p2 : Nat} (w : wp_T_typeOfConstant_36 D o K' K p1 p2) : JC (D + 8) m_T_typeOfConstant o K' 36 (fun G => [(0, .ref (cp_b G + 24)), (1, va_rf (kr G p1)), (2, va_rf (kr G p2))]) (fun _ => []) K := by
  unfold wp_T_typeOfConstant_36 at w
  intro G H d n0 z0 hd
  show kV G H m_T_typeOfConstant d n0 z0 (o G) K' 36 [(0, .ref (cp_b G + 24)), (1, va_rf (kr G p1)), (2, va_rf (kr G p2))] [] K
  refine kv_p (fun _ _ _ _ _ _ v => vv_aload_n (pc := 36) d_T_typeOfConstant_36 rfl v) ?_
  refine kw_gf (pc := 37) 14 d_T_typeOfConstant_37 fl_T_19 (Or.inl ⟨by decide, rfl⟩) rfl (by decide) ?_
  refine kw_cv (pc := 40) (As := []) (As0 := (fun G => [.ref (cp_b G + 14)])) d_T_typeOfConstant_40 (C_Bsize) rfl k_B_size ml_T_111 (Or.inl ⟨by decide, rfl⟩) (by omega) (Nat.le_of_ble_eq_true rfl) ?_
  refine kv_p (fun _ _ _ _ _ _ v => vv_istore_n (pc := 43) d_T_typeOfConstant_43 (Nat.le_of_ble_eq_true rfl) v) ?_
  refine kw_lv (lv := [(3, .int (nI (rsz K 15))), (0, .ref (cp_b G + 24)), (1, va_rf (kr G p1)), (2, va_rf (kr G p2))]) (by cases kr G p2 <;> rfl) ?_
  refine kv_p (fun _ _ _ _ _ _ v => vv_aload_nr (pc := 44) d_T_typeOfConstant_44 (cp_isr_rf (kr G p1)) rfl v) ?_
  obtain ⟨b1, w⟩ := w
  refine kw_grN (pc := 45) d_T_typeOfConstant_45 fl_T_49 b1 rfl rfl ?_
  refine kv_p (fun _ _ _ _ _ _ v => vv_astore (pc := 48) d_T_typeOfConstant_48 (cp_isr_rf (kr G (K.2.2.1 p1 4))) (Nat.le_of_ble_eq_true rfl) v) ?_
  refine kv_p (fun _ _ _ _ _ _ v => vv_aload_nr (pc := 50) d_T_typeOfConstant_50 (cp_isr_rf (kr G p2)) rfl v) ?_
  obtain ⟨b2, w⟩ := w
  refine kw_grN (pc := 51) d_T_typeOfConstant_51 fl_T_148 b2 rfl rfl ?_
  obtain ⟨b3, w⟩ := w
  refine kw_grN (pc := 54) d_T_typeOfConstant_54 fl_T_49 b3 rfl rfl ?_
  refine kv_p (fun _ _ _ _ _ _ v => vv_astore (pc := 57) d_T_typeOfConstant_57 (cp_isr_rf (kr G (K.2.2.1 (K.2.2.1 p2 4) 4))) (Nat.le_of_ble_eq_true rfl) v) ?_
  refine kw_lv (lv := [(5, va_rf (kr G (K.2.2.1 (K.2.2.1 p2 4) 4))), (4, va_rf (kr G (K.2.2.1 p1 4))), (3, .int (nI (rsz K 15))), (0, .ref (cp_b G + 24)), (1, va_rf (kr G p1)), (2, va_rf (kr G p2))]) (by cases kr G (K.2.2.1 p1 4) <;> rfl) ?_
  exact kw_sub [3, 4, 5, 2, 1, 0] rfl (w G H d n0 z0 hd)
def wp_T_typeOfConstant_59 (D : Nat) (o : cp_G → cp_O) (K' K : cp_K) (p1 : Nat) (p2 : Nat) (x3 : Int32) (p4 : Nat) (p5 : Nat) : Prop := ((p5 = (0 : Nat) → JC (D + 8) m_T_typeOfConstant o K' 186 (fun G => [(0, .ref (cp_b G + 24)), (1, va_rf (kr G p1)), (2, va_rf (kr G p2)), (3, .int x3), (4, va_rf (kr G p4)), (5, va_rf (kr G p5))]) (fun _ => []) K) ∧ (¬ p5 = (0 : Nat) → nd K p2 10 ∧ nd K (K.2.2.1 p2 4) 9 ∧ ((p5 = ((K.2.2.1 (K.2.2.1 p2 4) 5) : Nat) → JC (D + 8) m_T_typeOfConstant o K' 186 (fun G => [(0, .ref (cp_b G + 24)), (1, va_rf (kr G p1)), (2, va_rf (kr G p2)), (3, .int x3), (4, va_rf (kr G p4)), (5, va_rf (kr G p5))]) (fun _ => []) K) ∧ (¬ p5 = ((K.2.2.1 (K.2.2.1 p2 4) 5) : Nat) → nd K p5 9 ∧ ((¬ ((K.2.1 p5 0) : Int32) = 15 → ((p4 = (0 : Nat) → (o = (fun _ => .inl (some (.int (-1)))) ∧ K' = K)) ∧ (¬ p4 = (0 : Nat) → ∃ r6 T4, KC (D + 7) m_T_takeArgument (fun G => [.ref (cp_b G + 24), va_rf (kr G p5), va_rf (kr G p4), .int x3]) K (fun _ => some (.int r6)) T4 ∧ (((r6 : Int32) = 0 → (o = (fun _ => .inl (some (.int (-1)))) ∧ K' = T4)) ∧ (¬ (r6 : Int32) = 0 → nd T4 p4 9 ∧ JC (D + 8) m_T_typeOfConstant o K' 176 (fun G => [(0, .ref (cp_b G + 24)), (1, va_rf (kr G p1)), (2, va_rf (kr G p2)), (3, .int x3), (4, va_rf (kr G (T4.2.2.1 p4 6))), (5, va_rf (kr G p5))]) (fun _ => []) T4))))) ∧ (((K.2.1 p5 0) : Int32) = 15 → ∃ r10 T8, KC (D + 7) m_T_bindTerms (fun G => [.ref (cp_b G + 24), va_rf (kr G p5), .int x3]) K (fun _ => some (.int r10)) T8 ∧ ∃ r13 T11, KC (D + 7) m_U_carryOut (fun G => [.ref (cp_b G + 23), .int (K.2.1 p5 1), .int r10]) T8 (fun _ => some (.int r13)) T11 ∧ (((r13 : Int32) = (-1) → nd T11 p1 9 ∧ (o = (fun _ => .inl (some (.int (-1)))) ∧ K' = (kI T11 24 6 (T11.2.1 p1 2)))) ∧ (¬ (r13 : Int32) = (-1) → nd T11 p5 9 ∧ ∃ r18 T16, KC (D + 7) m_T_valueBy (fun G => [.ref (cp_b G + 24), va_rf (kr G (T11.2.2.1 p5 5)), .int x3]) T11 (fun _ => some (.int r18)) T16 ∧ ∃ r21 T19, KC (D + 7) m_V_makeSame (fun G => [.ref (cp_b G + 6), .int r13, .int r18]) T16 (fun _ => some (.int r21)) T19 ∧ ((¬ (r21 : Int32) = 0 → JC (D + 8) m_T_typeOfConstant o K' 176 (fun G => [(0, .ref (cp_b G + 24)), (1, va_rf (kr G p1)), (2, va_rf (kr G p2)), (3, .int x3), (4, va_rf (kr G p4)), (5, va_rf (kr G p5))]) (fun _ => []) T19) ∧ ((r21 : Int32) = 0 → nd T19 p1 9 ∧ (o = (fun _ => .inl (some (.int (-1)))) ∧ K' = (kI T19 24 6 (T19.2.1 p1 2)))))))))))))
theorem b_T_typeOfConstant_59 {D : Nat} {o : cp_G → cp_O} {K' K : cp_K} {p1 : Nat} {p2 : Nat} {x3 : Int32} {p4 : Nat} {p5 : Nat} (w : wp_T_typeOfConstant_59 D o K' K p1 p2 x3 p4 p5) : JC (D + 8) m_T_typeOfConstant o K' 59 (fun G => [(0, .ref (cp_b G + 24)), (1, va_rf (kr G p1)), (2, va_rf (kr G p2)), (3, .int x3), (4, va_rf (kr G p4)), (5, va_rf (kr G p5))]) (fun _ => []) K := by
  unfold wp_T_typeOfConstant_59 at w
  intro G H d n0 z0 hd
  show kV G H m_T_typeOfConstant d n0 z0 (o G) K' 59 [(0, .ref (cp_b G + 24)), (1, va_rf (kr G p1)), (2, va_rf (kr G p2)), (3, .int x3), (4, va_rf (kr G p4)), (5, va_rf (kr G p5))] [] K
  refine kv_p (fun _ _ _ _ _ _ v => vv_aloadr (pc := 59) d_T_typeOfConstant_59 (cp_isr_rf (kr G p5)) rfl v) ?_
  refine kw_ifnull (pc := 61) (tgt := 186) d_T_typeOfConstant_61 rfl (fun hc => ?_) (fun hc => ?_)
  · replace w := w.1 hc
    exact kw_sub [0, 1, 2, 3, 4, 5] rfl (w G H d n0 z0 hd)
  · replace w := w.2 hc
    refine kv_p (fun _ _ _ _ _ _ v => vv_aloadr (pc := 64) d_T_typeOfConstant_64 (cp_isr_rf (kr G p5)) rfl v) ?_
    refine kv_p (fun _ _ _ _ _ _ v => vv_aload_nr (pc := 66) d_T_typeOfConstant_66 (cp_isr_rf (kr G p2)) rfl v) ?_
    obtain ⟨b1, w⟩ := w
    refine kw_grN (pc := 67) d_T_typeOfConstant_67 fl_T_148 b1 rfl rfl ?_
    obtain ⟨b2, w⟩ := w
    refine kw_grN (pc := 70) d_T_typeOfConstant_70 fl_T_151 b2 rfl rfl ?_
    refine kw_acmp_eq (pc := 73) (tgt := 186) d_T_typeOfConstant_73 rfl (fun hc => ?_) (fun hc => ?_)
    · replace w := w.1 hc
      exact kw_sub [0, 1, 2, 3, 4, 5] rfl (w G H d n0 z0 hd)
    · replace w := w.2 hc
      refine kv_p (fun _ _ _ _ _ _ v => vv_aloadr (pc := 76) d_T_typeOfConstant_76 (cp_isr_rf (kr G p5)) rfl v) ?_
      obtain ⟨b3, w⟩ := w
      refine kw_giN (pc := 78) d_T_typeOfConstant_78 fl_T_64 b3 rfl rfl ?_
      refine kv_p (fun _ _ _ _ _ _ v => vv_bipush (pc := 81) (v := 15) d_T_typeOfConstant_81 rfl v) ?_
      by_cases hc : ((K.2.1 p5 0) : Int32) = 15
      · replace w := w.2 hc
        refine kv_p (fun _ _ _ _ _ _ v => vv_icmp_ne (pc := 83) (tgt := 147) d_T_typeOfConstant_83 rfl (fun hn => absurd hc hn) (fun _ => v)) ?_
        refine kv_p (fun _ _ _ _ _ _ v => vv_aload_n (pc := 86) d_T_typeOfConstant_86 rfl v) ?_
        refine kw_gf (pc := 87) 23 d_T_typeOfConstant_87 fl_T_23 (Or.inl ⟨by decide, rfl⟩) rfl (by decide) ?_
        refine kv_p (fun _ _ _ _ _ _ v => vv_aloadr (pc := 90) d_T_typeOfConstant_90 (cp_isr_rf (kr G p5)) rfl v) ?_
        refine kw_giN (pc := 92) d_T_typeOfConstant_92 fl_T_78 b3 rfl rfl ?_
        refine kv_p (fun _ _ _ _ _ _ v => vv_aload_n (pc := 95) d_T_typeOfConstant_95 rfl v) ?_
        refine kv_p (fun _ _ _ _ _ _ v => vv_aloadr (pc := 96) d_T_typeOfConstant_96 (cp_isr_rf (kr G p5)) rfl v) ?_
        refine kv_p (fun _ _ _ _ _ _ v => vv_iload_n (pc := 98) d_T_typeOfConstant_98 rfl v) ?_
        obtain ⟨r10, T8, c9, w⟩ := w
        refine kw_cv (pc := 99) (As := [va_rf (kr G p5), .int x3]) d_T_typeOfConstant_99 c9 rfl k_T_bindTerms ml_T_154 (Or.inl ⟨by decide, rfl⟩) (by omega) (Nat.le_of_ble_eq_true rfl) ?_
        obtain ⟨r13, T11, c12, w⟩ := w
        refine kw_cv (pc := 102) (As := [.int (K.2.1 p5 1), .int r10]) d_T_typeOfConstant_102 c12 rfl k_U_carryOut ml_T_158 (Or.inl ⟨by decide, rfl⟩) (by omega) (Nat.le_of_ble_eq_true rfl) ?_
        refine kv_p (fun _ _ _ _ _ _ v => vv_istore (pc := 105) d_T_typeOfConstant_105 (Nat.le_of_ble_eq_true rfl) v) ?_
        refine kw_lv (lv := [(6, .int r13), (0, .ref (cp_b G + 24)), (1, va_rf (kr G p1)), (2, va_rf (kr G p2)), (3, .int x3), (4, va_rf (kr G p4)), (5, va_rf (kr G p5))]) (by cases kr G p5 <;> rfl) ?_
        refine kv_p (fun _ _ _ _ _ _ v => vv_iload (pc := 107) d_T_typeOfConstant_107 rfl v) ?_
        refine kv_p (fun _ _ _ _ _ _ v => vv_iconst (pc := 109) (v := (-1)) d_T_typeOfConstant_109 rfl v) ?_
        by_cases hc : (r13 : Int32) = (-1)
        · replace w := w.1 hc
          refine kv_p (fun _ _ _ _ _ _ v => vv_icmp_eq (pc := 110) (tgt := 135) d_T_typeOfConstant_110 rfl (fun _ => v) (fun hn => absurd hc hn)) ?_
          refine kv_p (fun _ _ _ _ _ _ v => vv_aload_n (pc := 135) d_T_typeOfConstant_135 rfl v) ?_
          refine kv_p (fun _ _ _ _ _ _ v => vv_aload_nr (pc := 136) d_T_typeOfConstant_136 (cp_isr_rf (kr G p1)) rfl v) ?_
          obtain ⟨b14, w⟩ := w
          refine kw_giN (pc := 137) d_T_typeOfConstant_137 fl_T_71 b14 rfl rfl ?_
          refine kw_cv (pc := 140) (As := [.int (T11.2.1 p1 2)]) (As0 := (fun G => [.ref (cp_b G + 24), .int (T11.2.1 p1 2)])) d_T_typeOfConstant_140 (C_TnoType) rfl k_T_noType ml_T_128 (Or.inl ⟨by decide, rfl⟩) (by omega) (Nat.le_of_ble_eq_true rfl) ?_
          obtain ⟨rfl, rfl⟩ := w
          exact kv_e (fun _ _ => vv_iret (pc := 143) d_T_typeOfConstant_143 rfl)
        · replace w := w.2 hc
          refine kv_p (fun _ _ _ _ _ _ v => vv_icmp_eq (pc := 110) (tgt := 135) d_T_typeOfConstant_110 rfl (fun hn => absurd hn hc) (fun _ => v)) ?_
          refine kv_p (fun _ _ _ _ _ _ v => vv_aload_n (pc := 113) d_T_typeOfConstant_113 rfl v) ?_
          refine kw_gf (pc := 114) 6 d_T_typeOfConstant_114 fl_T_15 (Or.inl ⟨by decide, rfl⟩) rfl (by decide) ?_
          refine kv_p (fun _ _ _ _ _ _ v => vv_iload (pc := 117) d_T_typeOfConstant_117 rfl v) ?_
          refine kv_p (fun _ _ _ _ _ _ v => vv_aload_n (pc := 119) d_T_typeOfConstant_119 rfl v) ?_
          refine kv_p (fun _ _ _ _ _ _ v => vv_aloadr (pc := 120) d_T_typeOfConstant_120 (cp_isr_rf (kr G p5)) rfl v) ?_
          obtain ⟨b15, w⟩ := w
          refine kw_grN (pc := 122) d_T_typeOfConstant_122 fl_T_151 b15 rfl rfl ?_
          refine kv_p (fun _ _ _ _ _ _ v => vv_iload_n (pc := 125) d_T_typeOfConstant_125 rfl v) ?_
          obtain ⟨r18, T16, c17, w⟩ := w
          refine kw_cv (pc := 126) (As := [va_rf (kr G (T11.2.2.1 p5 5)), .int x3]) d_T_typeOfConstant_126 c17 rfl k_T_valueBy ml_T_163 (Or.inl ⟨by decide, rfl⟩) (by omega) (Nat.le_of_ble_eq_true rfl) ?_
          obtain ⟨r21, T19, c20, w⟩ := w
          refine kw_cv (pc := 129) (As := [.int r13, .int r18]) d_T_typeOfConstant_129 c20 rfl k_V_makeSame ml_T_166 (Or.inl ⟨by decide, rfl⟩) (by omega) (Nat.le_of_ble_eq_true rfl) ?_
          by_cases hc : (r21 : Int32) = 0
          · replace w := w.2 hc
            refine kv_p (fun _ _ _ _ _ _ v => vv_if_ne (pc := 132) (tgt := 144) d_T_typeOfConstant_132 rfl (fun hn => absurd hc hn) (fun _ => v)) ?_
            refine kv_p (fun _ _ _ _ _ _ v => vv_aload_n (pc := 135) d_T_typeOfConstant_135 rfl v) ?_
            refine kv_p (fun _ _ _ _ _ _ v => vv_aload_nr (pc := 136) d_T_typeOfConstant_136 (cp_isr_rf (kr G p1)) rfl v) ?_
            obtain ⟨b22, w⟩ := w
            refine kw_giN (pc := 137) d_T_typeOfConstant_137 fl_T_71 b22 rfl rfl ?_
            refine kw_cv (pc := 140) (As := [.int (T19.2.1 p1 2)]) (As0 := (fun G => [.ref (cp_b G + 24), .int (T19.2.1 p1 2)])) d_T_typeOfConstant_140 (C_TnoType) rfl k_T_noType ml_T_128 (Or.inl ⟨by decide, rfl⟩) (by omega) (Nat.le_of_ble_eq_true rfl) ?_
            obtain ⟨rfl, rfl⟩ := w
            exact kv_e (fun _ _ => vv_iret (pc := 143) d_T_typeOfConstant_143 rfl)
          · replace w := w.1 hc
            refine kv_p (fun _ _ _ _ _ _ v => vv_if_ne (pc := 132) (tgt := 144) d_T_typeOfConstant_132 rfl (fun _ => v) (fun hn => absurd hn hc)) ?_
            refine kv_p (fun _ _ _ _ _ _ v => vv_goto (pc := 144) (tgt := 176) d_T_typeOfConstant_144 rfl v) ?_
            exact kw_sub [1, 2, 3, 4, 5, 6] rfl (w G H d n0 z0 hd)
      · replace w := w.1 hc
        refine kv_p (fun _ _ _ _ _ _ v => vv_icmp_ne (pc := 83) (tgt := 147) d_T_typeOfConstant_83 rfl (fun _ => v) (fun hn => absurd hn hc)) ?_
        refine kv_p (fun _ _ _ _ _ _ v => vv_aloadr (pc := 147) d_T_typeOfConstant_147 (cp_isr_rf (kr G p4)) rfl v) ?_
        refine kw_ifnull (pc := 149) (tgt := 174) d_T_typeOfConstant_149 rfl (fun hc => ?_) (fun hc => ?_)
        · replace w := w.1 hc
          refine kv_p (fun _ _ _ _ _ _ v => vv_iconst (pc := 174) (v := (-1)) d_T_typeOfConstant_174 rfl v) ?_
          obtain ⟨rfl, rfl⟩ := w
          exact kv_e (fun _ _ => vv_iret (pc := 175) d_T_typeOfConstant_175 rfl)
        · replace w := w.2 hc
          refine kv_p (fun _ _ _ _ _ _ v => vv_aload_n (pc := 152) d_T_typeOfConstant_152 rfl v) ?_
          refine kv_p (fun _ _ _ _ _ _ v => vv_aloadr (pc := 153) d_T_typeOfConstant_153 (cp_isr_rf (kr G p5)) rfl v) ?_
          refine kv_p (fun _ _ _ _ _ _ v => vv_aloadr (pc := 155) d_T_typeOfConstant_155 (cp_isr_rf (kr G p4)) rfl v) ?_
          refine kv_p (fun _ _ _ _ _ _ v => vv_iload_n (pc := 157) d_T_typeOfConstant_157 rfl v) ?_
          obtain ⟨r6, T4, c5, w⟩ := w
          refine kw_cv (pc := 158) (As := [va_rf (kr G p5), va_rf (kr G p4), .int x3]) d_T_typeOfConstant_158 c5 rfl k_T_takeArgument ml_T_170 (Or.inl ⟨by decide, rfl⟩) (by omega) (Nat.le_of_ble_eq_true rfl) ?_
          by_cases hc : (r6 : Int32) = 0
          · replace w := w.1 hc
            refine kv_p (fun _ _ _ _ _ _ v => vv_if_eq (pc := 161) (tgt := 174) d_T_typeOfConstant_161 rfl (fun _ => v) (fun hn => absurd hc hn)) ?_
            refine kv_p (fun _ _ _ _ _ _ v => vv_iconst (pc := 174) (v := (-1)) d_T_typeOfConstant_174 rfl v) ?_
            obtain ⟨rfl, rfl⟩ := w
            exact kv_e (fun _ _ => vv_iret (pc := 175) d_T_typeOfConstant_175 rfl)
          · replace w := w.2 hc
            refine kv_p (fun _ _ _ _ _ _ v => vv_if_eq (pc := 161) (tgt := 174) d_T_typeOfConstant_161 rfl (fun hn => absurd hn hc) (fun _ => v)) ?_
            refine kv_p (fun _ _ _ _ _ _ v => vv_aloadr (pc := 164) d_T_typeOfConstant_164 (cp_isr_rf (kr G p4)) rfl v) ?_
            obtain ⟨b7, w⟩ := w
            refine kw_grN (pc := 166) d_T_typeOfConstant_166 fl_T_61 b7 rfl rfl ?_
            refine kv_p (fun _ _ _ _ _ _ v => vv_astore (pc := 169) d_T_typeOfConstant_169 (cp_isr_rf (kr G (T4.2.2.1 p4 6))) (Nat.le_of_ble_eq_true rfl) v) ?_
            refine kv_p (fun _ _ _ _ _ _ v => vv_goto (pc := 171) (tgt := 176) d_T_typeOfConstant_171 rfl v) ?_
            exact kw_sub [1, 2, 3, 4, 0, 5] rfl (w G H d n0 z0 hd)
def wp_T_typeOfConstant_176 (D : Nat) (o : cp_G → cp_O) (K' K : cp_K) (p1 : Nat) (p2 : Nat) (x3 : Int32) (p4 : Nat) (p5 : Nat) : Prop := nd K p5 9 ∧ JC (D + 8) m_T_typeOfConstant o K' 59 (fun G => [(0, .ref (cp_b G + 24)), (1, va_rf (kr G p1)), (2, va_rf (kr G p2)), (3, .int x3), (4, va_rf (kr G p4)), (5, va_rf (kr G (K.2.2.1 p5 6)))]) (fun _ => []) K
theorem b_T_typeOfConstant_176 {D : Nat} {o : cp_G → cp_O} {K' K : cp_K} {p1 : Nat} {p2 : Nat} {x3 : Int32} {p4 : Nat} {p5 : Nat} (w : wp_T_typeOfConstant_176 D o K' K p1 p2 x3 p4 p5) : JC (D + 8) m_T_typeOfConstant o K' 176 (fun G => [(0, .ref (cp_b G + 24)), (1, va_rf (kr G p1)), (2, va_rf (kr G p2)), (3, .int x3), (4, va_rf (kr G p4)), (5, va_rf (kr G p5))]) (fun _ => []) K := by
  unfold wp_T_typeOfConstant_176 at w
  intro G H d n0 z0 hd
  show kV G H m_T_typeOfConstant d n0 z0 (o G) K' 176 [(0, .ref (cp_b G + 24)), (1, va_rf (kr G p1)), (2, va_rf (kr G p2)), (3, .int x3), (4, va_rf (kr G p4)), (5, va_rf (kr G p5))] [] K
  refine kv_p (fun _ _ _ _ _ _ v => vv_aloadr (pc := 176) d_T_typeOfConstant_176 (cp_isr_rf (kr G p5)) rfl v) ?_
  obtain ⟨b1, w⟩ := w
  refine kw_grN (pc := 178) d_T_typeOfConstant_178 fl_T_61 b1 rfl rfl ?_
  refine kv_p (fun _ _ _ _ _ _ v => vv_astore (pc := 181) d_T_typeOfConstant_181 (cp_isr_rf (kr G (K.2.2.1 p5 6))) (Nat.le_of_ble_eq_true rfl) v) ?_
  refine kw_lv (lv := [(5, va_rf (kr G (K.2.2.1 p5 6))), (0, .ref (cp_b G + 24)), (1, va_rf (kr G p1)), (2, va_rf (kr G p2)), (3, .int x3), (4, va_rf (kr G p4))]) (by cases kr G p4 <;> rfl) ?_
  refine kv_p (fun _ _ _ _ _ _ v => vv_goto (pc := 183) (tgt := 59) d_T_typeOfConstant_183 rfl v) ?_
  exact kw_sub [1, 2, 3, 4, 5, 0] rfl (w G H d n0 z0 hd)
def wp_T_typeOfConstant_186 (D : Nat) (o : cp_G → cp_O) (K' K : cp_K) (p1 : Nat) (p2 : Nat) (x3 : Int32) (p4 : Nat) (p5 : Nat) : Prop := nd K p2 10 ∧ nd K (K.2.2.1 p2 4) 9 ∧ nd K (K.2.2.1 (K.2.2.1 p2 4) 5) 9 ∧ ∃ r6 T4, KC (D + 7) m_T_valueBy (fun G => [.ref (cp_b G + 24), va_rf (kr G (K.2.2.1 (K.2.2.1 (K.2.2.1 p2 4) 5) 4)), .int x3]) K (fun _ => some (.int r6)) T4 ∧ nd T4 p1 9 ∧ ∃ r10 T8, KC (D + 7) m_V_makeConstant (fun G => [.ref (cp_b G + 6), .int (T4.2.1 p1 1), .ref (cp_b G + 14), .int x3]) T4 (fun _ => some (.int r10)) T8 ∧ (o = (fun _ => .inl (some (.int r6))) ∧ K' = (bcut (kI T8 24 7 r10) x3))
theorem b_T_typeOfConstant_186 {D : Nat} {o : cp_G → cp_O} {K' K : cp_K} {p1 : Nat} {p2 : Nat} {x3 : Int32} {p4 : Nat} {p5 : Nat} (w : wp_T_typeOfConstant_186 D o K' K p1 p2 x3 p4 p5) : JC (D + 8) m_T_typeOfConstant o K' 186 (fun G => [(0, .ref (cp_b G + 24)), (1, va_rf (kr G p1)), (2, va_rf (kr G p2)), (3, .int x3), (4, va_rf (kr G p4)), (5, va_rf (kr G p5))]) (fun _ => []) K := by
  unfold wp_T_typeOfConstant_186 at w
  intro G H d n0 z0 hd
  show kV G H m_T_typeOfConstant d n0 z0 (o G) K' 186 [(0, .ref (cp_b G + 24)), (1, va_rf (kr G p1)), (2, va_rf (kr G p2)), (3, .int x3), (4, va_rf (kr G p4)), (5, va_rf (kr G p5))] [] K
  refine kv_p (fun _ _ _ _ _ _ v => vv_aload_n (pc := 186) d_T_typeOfConstant_186 rfl v) ?_
  refine kv_p (fun _ _ _ _ _ _ v => vv_aload_nr (pc := 187) d_T_typeOfConstant_187 (cp_isr_rf (kr G p2)) rfl v) ?_
  obtain ⟨b1, w⟩ := w
  refine kw_grN (pc := 188) d_T_typeOfConstant_188 fl_T_148 b1 rfl rfl ?_
  obtain ⟨b2, w⟩ := w
  refine kw_grN (pc := 191) d_T_typeOfConstant_191 fl_T_151 b2 rfl rfl ?_
  obtain ⟨b3, w⟩ := w
  refine kw_grN (pc := 194) d_T_typeOfConstant_194 fl_T_49 b3 rfl rfl ?_
  refine kv_p (fun _ _ _ _ _ _ v => vv_iload_n (pc := 197) d_T_typeOfConstant_197 rfl v) ?_
  obtain ⟨r6, T4, c5, w⟩ := w
  refine kw_cv (pc := 198) (As := [va_rf (kr G (K.2.2.1 (K.2.2.1 (K.2.2.1 p2 4) 5) 4)), .int x3]) d_T_typeOfConstant_198 c5 rfl k_T_valueBy ml_T_163 (Or.inl ⟨by decide, rfl⟩) (by omega) (Nat.le_of_ble_eq_true rfl) ?_
  refine kv_p (fun _ _ _ _ _ _ v => vv_istore (pc := 201) d_T_typeOfConstant_201 (Nat.le_of_ble_eq_true rfl) v) ?_
  refine kw_lv (lv := [(5, .int r6), (0, .ref (cp_b G + 24)), (1, va_rf (kr G p1)), (2, va_rf (kr G p2)), (3, .int x3), (4, va_rf (kr G p4))]) (by cases kr G p4 <;> rfl) ?_
  refine kv_p (fun _ _ _ _ _ _ v => vv_aload_n (pc := 203) d_T_typeOfConstant_203 rfl v) ?_
  refine kv_p (fun _ _ _ _ _ _ v => vv_aload_n (pc := 204) d_T_typeOfConstant_204 rfl v) ?_
  refine kw_gf (pc := 205) 6 d_T_typeOfConstant_205 fl_T_15 (Or.inl ⟨by decide, rfl⟩) rfl (by decide) ?_
  refine kv_p (fun _ _ _ _ _ _ v => vv_aload_nr (pc := 208) d_T_typeOfConstant_208 (cp_isr_rf (kr G p1)) rfl v) ?_
  obtain ⟨b7, w⟩ := w
  refine kw_giN (pc := 209) d_T_typeOfConstant_209 fl_T_78 b7 rfl rfl ?_
  refine kv_p (fun _ _ _ _ _ _ v => vv_aload_n (pc := 212) d_T_typeOfConstant_212 rfl v) ?_
  refine kw_gf (pc := 213) 14 d_T_typeOfConstant_213 fl_T_19 (Or.inl ⟨by decide, rfl⟩) rfl (by decide) ?_
  refine kv_p (fun _ _ _ _ _ _ v => vv_iload_n (pc := 216) d_T_typeOfConstant_216 rfl v) ?_
  obtain ⟨r10, T8, c9, w⟩ := w
  refine kw_cv (pc := 217) (As := [.int (T4.2.1 p1 1), .ref (cp_b G + 14), .int x3]) d_T_typeOfConstant_217 c9 rfl k_V_makeConstant ml_T_174 (Or.inl ⟨by decide, rfl⟩) (by omega) (Nat.le_of_ble_eq_true rfl) ?_
  refine kw_pi (pc := 220) d_T_typeOfConstant_220 fl_T_38 (Or.inl ⟨by decide, rfl⟩) rfl rfl rfl rfl rfl ?_
  refine kv_p (fun _ _ _ _ _ _ v => vv_aload_n (pc := 223) d_T_typeOfConstant_223 rfl v) ?_
  refine kw_gf (pc := 224) 14 d_T_typeOfConstant_224 fl_T_19 (Or.inl ⟨by decide, rfl⟩) rfl (by decide) ?_
  refine kv_p (fun _ _ _ _ _ _ v => vv_iload_n (pc := 227) d_T_typeOfConstant_227 rfl v) ?_
  refine kw_cv (pc := 228) (As := [.int x3]) (As0 := (fun G => [.ref (cp_b G + 14), .int x3])) d_T_typeOfConstant_228 (C_Bcut) rfl k_B_cut ml_T_178 (Or.inl ⟨by decide, rfl⟩) (by omega) (Nat.le_of_ble_eq_true rfl) ?_
  refine kv_p (fun _ _ _ _ _ _ v => vv_iload (pc := 231) d_T_typeOfConstant_231 rfl v) ?_
  obtain ⟨rfl, rfl⟩ := w
  exact kv_e (fun _ _ => vv_iret (pc := 233) d_T_typeOfConstant_233 rfl)
def wp_T_takeArgument_0 (D : Nat) (o : cp_G → cp_O) (K' K : cp_K) (p1 : Nat) (p2 : Nat) (x3 : Int32) : Prop := nd K p2 9 ∧ ((¬ ((K.2.1 p2 0) : Int32) = 4 → ∃ r4 T2, KC (D + 7) m_T_typeOf (fun G => [.ref (cp_b G + 24), va_rf (kr G p2)]) K (fun _ => some (.int r4)) T2 ∧ ((¬ (r4 : Int32) = (-1) → ((¬ ((if rget T2 7 r4 = 3 then 1 else 0) : Int32) = 0 → nd T2 p2 9 ∧ (o = (fun _ => .inl (some (.int 0))) ∧ K' = (kI T2 24 6 (T2.2.1 p2 2)))) ∧ (((if rget T2 7 r4 = 3 then 1 else 0) : Int32) = 0 → nd T2 p1 9 ∧ ∃ r9 T7, KC (D + 7) m_T_valueBy (fun G => [.ref (cp_b G + 24), va_rf (kr G (T2.2.2.1 p1 4)), .int x3]) T2 (fun _ => some (.int r9)) T7 ∧ ∃ r12 T10, KC (D + 7) m_V_makeSame (fun G => [.ref (cp_b G + 6), .int r4, .int r9]) T7 (fun _ => some (.int r12)) T10 ∧ ((¬ (r12 : Int32) = 0 → nd T10 p1 9 ∧ (rsz T10 15 < k_lim 15 ∧ rsz T10 17 < k_lim 17 ∧ rsz T10 19 < k_lim 19) ∧ (o = (fun _ => .inl (some (.int 1))) ∧ K' = (bpush T10 (T10.2.1 p1 1) (T2.2.1 24 7) (-1)))) ∧ ((r12 : Int32) = 0 → nd T10 p2 9 ∧ (o = (fun _ => .inl (some (.int 0))) ∧ K' = (kI T10 24 6 (T10.2.1 p2 2)))))))) ∧ ((r4 : Int32) = (-1) → (o = (fun _ => .inl (some (.int 0))) ∧ K' = T2)))) ∧ (((K.2.1 p2 0) : Int32) = 4 → nd K p1 9 ∧ rsz K 7 + 2 < k_lim 7 ∧ (rsz (mks K 4 (-1)) 15 < k_lim 15 ∧ rsz (mks K 4 (-1)) 17 < k_lim 17 ∧ rsz (mks K 4 (-1)) 19 < k_lim 19) ∧ (o = (fun _ => .inl (some (.int 1))) ∧ K' = (bpush (mks K 4 (-1)) (K.2.1 p1 1) (nI (rsz K 7)) (-1)))))
theorem b_T_takeArgument_0 {D : Nat} {o : cp_G → cp_O} {K' K : cp_K} {p1 : Nat} {p2 : Nat} {x3 : Int32} (w : wp_T_takeArgument_0 D o K' K p1 p2 x3) : JC (D + 8) m_T_takeArgument o K' 0 (fun G => [(0, .ref (cp_b G + 24)), (1, va_rf (kr G p1)), (2, va_rf (kr G p2)), (3, .int x3)]) (fun _ => []) K := by
  unfold wp_T_takeArgument_0 at w
  intro G H d n0 z0 hd
  show kV G H m_T_takeArgument d n0 z0 (o G) K' 0 [(0, .ref (cp_b G + 24)), (1, va_rf (kr G p1)), (2, va_rf (kr G p2)), (3, .int x3)] [] K
  refine kv_p (fun _ _ _ _ _ _ v => vv_aload_nr (pc := 0) d_T_takeArgument_0 (cp_isr_rf (kr G p2)) rfl v) ?_
  obtain ⟨b1, w⟩ := w
  refine kw_giN (pc := 1) d_T_takeArgument_1 fl_T_64 b1 rfl rfl ?_
  refine kv_p (fun _ _ _ _ _ _ v => vv_iconst (pc := 4) (v := 4) d_T_takeArgument_4 rfl v) ?_
  by_cases hc : ((K.2.1 p2 0) : Int32) = 4
  · replace w := w.2 hc
    refine kv_p (fun _ _ _ _ _ _ v => vv_icmp_ne (pc := 5) (tgt := 29) d_T_takeArgument_5 rfl (fun hn => absurd hc hn) (fun _ => v)) ?_
    refine kv_p (fun _ _ _ _ _ _ v => vv_aload_n (pc := 8) d_T_takeArgument_8 rfl v) ?_
    refine kw_gf (pc := 9) 14 d_T_takeArgument_9 fl_T_19 (Or.inl ⟨by decide, rfl⟩) rfl (by decide) ?_
    refine kv_p (fun _ _ _ _ _ _ v => vv_aload_nr (pc := 12) d_T_takeArgument_12 (cp_isr_rf (kr G p1)) rfl v) ?_
    obtain ⟨b16, w⟩ := w
    refine kw_giN (pc := 13) d_T_takeArgument_13 fl_T_78 b16 rfl rfl ?_
    refine kv_p (fun _ _ _ _ _ _ v => vv_aload_n (pc := 16) d_T_takeArgument_16 rfl v) ?_
    refine kw_gf (pc := 17) 6 d_T_takeArgument_17 fl_T_15 (Or.inl ⟨by decide, rfl⟩) rfl (by decide) ?_
    obtain ⟨b17, w⟩ := w
    refine kw_cv (pc := 20) (As := []) (As0 := (fun G => [.ref (cp_b G + 6)])) d_T_takeArgument_20 (C_VmakeHole b17) rfl k_V_makeHole ml_T_181 (Or.inl ⟨by decide, rfl⟩) (by omega) (Nat.le_of_ble_eq_true rfl) ?_
    refine kv_p (fun _ _ _ _ _ _ v => vv_iconst (pc := 23) (v := (-1)) d_T_takeArgument_23 rfl v) ?_
    obtain ⟨b18, w⟩ := w
    refine kw_cv (pc := 24) (As := [.int (K.2.1 p1 1), .int (nI (rsz K 7)), .int (-1)]) (As0 := (fun G => [.ref (cp_b G + 14), .int (K.2.1 p1 1), .int (nI (rsz K 7)), .int (-1)])) d_T_takeArgument_24 (C_Bpush b18) rfl k_B_push ml_T_107 (Or.inl ⟨by decide, rfl⟩) (by omega) (Nat.le_of_ble_eq_true rfl) ?_
    refine kv_p (fun _ _ _ _ _ _ v => vv_iconst (pc := 27) (v := 1) d_T_takeArgument_27 rfl v) ?_
    obtain ⟨rfl, rfl⟩ := w
    exact kv_e (fun _ _ => vv_zret (pc := 28) d_T_takeArgument_28 rfl rfl)
  · replace w := w.1 hc
    refine kv_p (fun _ _ _ _ _ _ v => vv_icmp_ne (pc := 5) (tgt := 29) d_T_takeArgument_5 rfl (fun _ => v) (fun hn => absurd hn hc)) ?_
    refine kv_p (fun _ _ _ _ _ _ v => vv_aload_n (pc := 29) d_T_takeArgument_29 rfl v) ?_
    refine kv_p (fun _ _ _ _ _ _ v => vv_aload_nr (pc := 30) d_T_takeArgument_30 (cp_isr_rf (kr G p2)) rfl v) ?_
    obtain ⟨r4, T2, c3, w⟩ := w
    refine kw_cv (pc := 31) (As := [va_rf (kr G p2)]) d_T_takeArgument_31 c3 rfl k_T_typeOf ml_T_45 (Or.inl ⟨by decide, rfl⟩) (by omega) (Nat.le_of_ble_eq_true rfl) ?_
    refine kv_p (fun _ _ _ _ _ _ v => vv_istore (pc := 34) d_T_takeArgument_34 (Nat.le_of_ble_eq_true rfl) v) ?_
    refine kv_p (fun _ _ _ _ _ _ v => vv_iload (pc := 36) d_T_takeArgument_36 rfl v) ?_
    refine kv_p (fun _ _ _ _ _ _ v => vv_iconst (pc := 38) (v := (-1)) d_T_takeArgument_38 rfl v) ?_
    by_cases hc : (r4 : Int32) = (-1)
    · replace w := w.2 hc
      refine kv_p (fun _ _ _ _ _ _ v => vv_icmp_ne (pc := 39) (tgt := 44) d_T_takeArgument_39 rfl (fun hn => absurd hc hn) (fun _ => v)) ?_
      refine kv_p (fun _ _ _ _ _ _ v => vv_iconst (pc := 42) (v := 0) d_T_takeArgument_42 rfl v) ?_
      obtain ⟨rfl, rfl⟩ := w
      exact kv_e (fun _ _ => vv_zret (pc := 43) d_T_takeArgument_43 rfl rfl)
    · replace w := w.1 hc
      refine kv_p (fun _ _ _ _ _ _ v => vv_icmp_ne (pc := 39) (tgt := 44) d_T_takeArgument_39 rfl (fun _ => v) (fun hn => absurd hn hc)) ?_
      refine kv_p (fun _ _ _ _ _ _ v => vv_aload_n (pc := 44) d_T_takeArgument_44 rfl v) ?_
      refine kw_gi (pc := 45) d_T_takeArgument_45 fl_T_38 (Or.inl ⟨by decide, rfl⟩) rfl rfl ?_
      refine kv_p (fun _ _ _ _ _ _ v => vv_istore (pc := 48) d_T_takeArgument_48 (Nat.le_of_ble_eq_true rfl) v) ?_
      refine kv_p (fun _ _ _ _ _ _ v => vv_aload_n (pc := 50) d_T_takeArgument_50 rfl v) ?_
      refine kv_p (fun _ _ _ _ _ _ v => vv_iload (pc := 51) d_T_takeArgument_51 rfl v) ?_
      refine kw_cv (pc := 53) (As := [.int r4]) (As0 := (fun G => [.ref (cp_b G + 24), .int r4])) d_T_takeArgument_53 (C_TisStar) rfl k_T_isStar ml_T_74 (Or.inl ⟨by decide, rfl⟩) (by omega) (Nat.le_of_ble_eq_true rfl) ?_
      by_cases hc : ((if rget T2 7 r4 = 3 then 1 else 0) : Int32) = 0
      · replace w := w.2 hc
        refine kv_p (fun _ _ _ _ _ _ v => vv_if_ne (pc := 56) (tgt := 80) d_T_takeArgument_56 rfl (fun hn => absurd hc hn) (fun _ => v)) ?_
        refine kv_p (fun _ _ _ _ _ _ v => vv_aload_n (pc := 59) d_T_takeArgument_59 rfl v) ?_
        refine kw_gf (pc := 60) 6 d_T_takeArgument_60 fl_T_15 (Or.inl ⟨by decide, rfl⟩) rfl (by decide) ?_
        refine kv_p (fun _ _ _ _ _ _ v => vv_iload (pc := 63) d_T_takeArgument_63 rfl v) ?_
        refine kv_p (fun _ _ _ _ _ _ v => vv_aload_n (pc := 65) d_T_takeArgument_65 rfl v) ?_
        refine kv_p (fun _ _ _ _ _ _ v => vv_aload_nr (pc := 66) d_T_takeArgument_66 (cp_isr_rf (kr G p1)) rfl v) ?_
        obtain ⟨b6, w⟩ := w
        refine kw_grN (pc := 67) d_T_takeArgument_67 fl_T_49 b6 rfl rfl ?_
        refine kv_p (fun _ _ _ _ _ _ v => vv_iload_n (pc := 70) d_T_takeArgument_70 rfl v) ?_
        obtain ⟨r9, T7, c8, w⟩ := w
        refine kw_cv (pc := 71) (As := [va_rf (kr G (T2.2.2.1 p1 4)), .int x3]) d_T_takeArgument_71 c8 rfl k_T_valueBy ml_T_163 (Or.inl ⟨by decide, rfl⟩) (by omega) (Nat.le_of_ble_eq_true rfl) ?_
        obtain ⟨r12, T10, c11, w⟩ := w
        refine kw_cv (pc := 74) (As := [.int r4, .int r9]) d_T_takeArgument_74 c11 rfl k_V_makeSame ml_T_166 (Or.inl ⟨by decide, rfl⟩) (by omega) (Nat.le_of_ble_eq_true rfl) ?_
        by_cases hc : (r12 : Int32) = 0
        · replace w := w.2 hc
          refine kv_p (fun _ _ _ _ _ _ v => vv_if_ne (pc := 77) (tgt := 90) d_T_takeArgument_77 rfl (fun hn => absurd hc hn) (fun _ => v)) ?_
          refine kv_p (fun _ _ _ _ _ _ v => vv_aload_n (pc := 80) d_T_takeArgument_80 rfl v) ?_
          refine kv_p (fun _ _ _ _ _ _ v => vv_aload_nr (pc := 81) d_T_takeArgument_81 (cp_isr_rf (kr G p2)) rfl v) ?_
          obtain ⟨b15, w⟩ := w
          refine kw_giN (pc := 82) d_T_takeArgument_82 fl_T_71 b15 rfl rfl ?_
          refine kw_pi (pc := 85) d_T_takeArgument_85 fl_T_35 (Or.inl ⟨by decide, rfl⟩) rfl rfl rfl rfl rfl ?_
          refine kv_p (fun _ _ _ _ _ _ v => vv_iconst (pc := 88) (v := 0) d_T_takeArgument_88 rfl v) ?_
          obtain ⟨rfl, rfl⟩ := w
          exact kv_e (fun _ _ => vv_zret (pc := 89) d_T_takeArgument_89 rfl rfl)
        · replace w := w.1 hc
          refine kv_p (fun _ _ _ _ _ _ v => vv_if_ne (pc := 77) (tgt := 90) d_T_takeArgument_77 rfl (fun _ => v) (fun hn => absurd hn hc)) ?_
          refine kv_p (fun _ _ _ _ _ _ v => vv_aload_n (pc := 90) d_T_takeArgument_90 rfl v) ?_
          refine kw_gf (pc := 91) 14 d_T_takeArgument_91 fl_T_19 (Or.inl ⟨by decide, rfl⟩) rfl (by decide) ?_
          refine kv_p (fun _ _ _ _ _ _ v => vv_aload_nr (pc := 94) d_T_takeArgument_94 (cp_isr_rf (kr G p1)) rfl v) ?_
          obtain ⟨b13, w⟩ := w
          refine kw_giN (pc := 95) d_T_takeArgument_95 fl_T_78 b13 rfl rfl ?_
          refine kv_p (fun _ _ _ _ _ _ v => vv_iload (pc := 98) d_T_takeArgument_98 rfl v) ?_
          refine kv_p (fun _ _ _ _ _ _ v => vv_iconst (pc := 100) (v := (-1)) d_T_takeArgument_100 rfl v) ?_
          obtain ⟨b14, w⟩ := w
          refine kw_cv (pc := 101) (As := [.int (T10.2.1 p1 1), .int (T2.2.1 24 7), .int (-1)]) (As0 := (fun G => [.ref (cp_b G + 14), .int (T10.2.1 p1 1), .int (T2.2.1 24 7), .int (-1)])) d_T_takeArgument_101 (C_Bpush b14) rfl k_B_push ml_T_107 (Or.inl ⟨by decide, rfl⟩) (by omega) (Nat.le_of_ble_eq_true rfl) ?_
          refine kv_p (fun _ _ _ _ _ _ v => vv_iconst (pc := 104) (v := 1) d_T_takeArgument_104 rfl v) ?_
          obtain ⟨rfl, rfl⟩ := w
          exact kv_e (fun _ _ => vv_zret (pc := 105) d_T_takeArgument_105 rfl rfl)
      · replace w := w.1 hc
        refine kv_p (fun _ _ _ _ _ _ v => vv_if_ne (pc := 56) (tgt := 80) d_T_takeArgument_56 rfl (fun _ => v) (fun hn => absurd hn hc)) ?_
        refine kv_p (fun _ _ _ _ _ _ v => vv_aload_n (pc := 80) d_T_takeArgument_80 rfl v) ?_
        refine kv_p (fun _ _ _ _ _ _ v => vv_aload_nr (pc := 81) d_T_takeArgument_81 (cp_isr_rf (kr G p2)) rfl v) ?_
        obtain ⟨b5, w⟩ := w
        refine kw_giN (pc := 82) d_T_takeArgument_82 fl_T_71 b5 rfl rfl ?_
        refine kw_pi (pc := 85) d_T_takeArgument_85 fl_T_35 (Or.inl ⟨by decide, rfl⟩) rfl rfl rfl rfl rfl ?_
        refine kv_p (fun _ _ _ _ _ _ v => vv_iconst (pc := 88) (v := 0) d_T_takeArgument_88 rfl v) ?_
        obtain ⟨rfl, rfl⟩ := w
        exact kv_e (fun _ _ => vv_zret (pc := 89) d_T_takeArgument_89 rfl rfl)
theorem c_T_takeArgument {D : Nat} {o : cp_G → Option Value} {K' K : cp_K} {p1 : Nat} {p2 : Nat} {x3 : Int32} (w : wp_T_takeArgument_0 D (fun G => .inl (o G)) K' K p1 p2 x3) : KC (D + 8) m_T_takeArgument (fun G => [.ref (cp_b G + 24), va_rf (kr G p1), va_rf (kr G p2), .int x3]) K o K' := KC.of2 rfl (fun G => by cases kr G p1 <;> cases kr G p2 <;> exact ⟨Nat.le_of_ble_eq_true rfl, rfl⟩) (b_T_takeArgument_0 w)
def wp_T_bindTerms_0 (D : Nat) (o : cp_G → cp_O) (K' K : cp_K) (p1 : Nat) (x2 : Int32) : Prop := nd K p1 9 ∧ JC (D + 8) m_T_bindTerms o K' 14 (fun G => [(0, .ref (cp_b G + 24)), (1, va_rf (kr G p1)), (2, .int x2), (3, .int (nI (rsz K 15))), (4, va_rf (kr G (K.2.2.1 p1 4)))]) (fun _ => []) K
theorem b_T_bindTerms_0 {D : Nat} {o : cp_G → cp_O} {K' K : cp_K} {p1 : Nat} {x2 : Int32} (w : wp_T_bindTerms_0 D o K' K p1 x2) : JC (D + 8) m_T_bindTerms o K' 0 (fun G => [(0, .ref (cp_b G + 24)), (1, va_rf (kr G p1)), (2, .int x2)]) (fun _ => []) K := by
  unfold wp_T_bindTerms_0 at w
  intro G H d n0 z0 hd
  show kV G H m_T_bindTerms d n0 z0 (o G) K' 0 [(0, .ref (cp_b G + 24)), (1, va_rf (kr G p1)), (2, .int x2)] [] K
  refine kv_p (fun _ _ _ _ _ _ v => vv_aload_n (pc := 0) d_T_bindTerms_0 rfl v) ?_
  refine kw_gf (pc := 1) 14 d_T_bindTerms_1 fl_T_19 (Or.inl ⟨by decide, rfl⟩) rfl (by decide) ?_
  refine kw_cv (pc := 4) (As := []) (As0 := (fun G => [.ref (cp_b G + 14)])) d_T_bindTerms_4 (C_Bsize) rfl k_B_size ml_T_111 (Or.inl ⟨by decide, rfl⟩) (by omega) (Nat.le_of_ble_eq_true rfl) ?_
  refine kv_p (fun _ _ _ _ _ _ v => vv_istore_n (pc := 7) d_T_bindTerms_7 (Nat.le_of_ble_eq_true rfl) v) ?_
  refine kv_p (fun _ _ _ _ _ _ v => vv_aload_nr (pc := 8) d_T_bindTerms_8 (cp_isr_rf (kr G p1)) rfl v) ?_
  obtain ⟨b1, w⟩ := w
  refine kw_grN (pc := 9) d_T_bindTerms_9 fl_T_49 b1 rfl rfl ?_
  refine kv_p (fun _ _ _ _ _ _ v => vv_astore (pc := 12) d_T_bindTerms_12 (cp_isr_rf (kr G (K.2.2.1 p1 4))) (Nat.le_of_ble_eq_true rfl) v) ?_
  exact kw_sub [2, 3, 4, 1, 0] rfl (w G H d n0 z0 hd)
theorem c_T_bindTerms {D : Nat} {o : cp_G → Option Value} {K' K : cp_K} {p1 : Nat} {x2 : Int32} (w : wp_T_bindTerms_0 D (fun G => .inl (o G)) K' K p1 x2) : KC (D + 8) m_T_bindTerms (fun G => [.ref (cp_b G + 24), va_rf (kr G p1), .int x2]) K o K' := KC.of2 rfl (fun G => by cases kr G p1 <;> exact ⟨Nat.le_of_ble_eq_true rfl, rfl⟩) (b_T_bindTerms_0 w)
def wp_T_bindTerms_14 (D : Nat) (o : cp_G → cp_O) (K' K : cp_K) (p1 : Nat) (x2 : Int32) (x3 : Int32) (p4 : Nat) : Prop := ((p4 = (0 : Nat) → (o = (fun _ => .inl (some (.int x3))) ∧ K' = K)) ∧ (¬ p4 = (0 : Nat) → nd K p1 9 ∧ ((p4 = ((K.2.2.1 p1 5) : Nat) → (o = (fun _ => .inl (some (.int x3))) ∧ K' = K)) ∧ (¬ p4 = ((K.2.2.1 p1 5) : Nat) → ∃ r4 T2, KC (D + 7) m_T_valueBy (fun G => [.ref (cp_b G + 24), va_rf (kr G p4), .int x2]) K (fun _ => some (.int r4)) T2 ∧ (rsz T2 15 < k_lim 15 ∧ rsz T2 17 < k_lim 17 ∧ rsz T2 19 < k_lim 19) ∧ nd T2 p4 9 ∧ JC (D + 8) m_T_bindTerms o K' 14 (fun G => [(0, .ref (cp_b G + 24)), (1, va_rf (kr G p1)), (2, .int x2), (3, .int x3), (4, va_rf (kr G ((bpush T2 0 r4 (-1)).2.2.1 p4 6)))]) (fun _ => []) (bpush T2 0 r4 (-1))))))
theorem b_T_bindTerms_14 {D : Nat} {o : cp_G → cp_O} {K' K : cp_K} {p1 : Nat} {x2 : Int32} {x3 : Int32} {p4 : Nat} (w : wp_T_bindTerms_14 D o K' K p1 x2 x3 p4) : JC (D + 8) m_T_bindTerms o K' 14 (fun G => [(0, .ref (cp_b G + 24)), (1, va_rf (kr G p1)), (2, .int x2), (3, .int x3), (4, va_rf (kr G p4))]) (fun _ => []) K := by
  unfold wp_T_bindTerms_14 at w
  intro G H d n0 z0 hd
  show kV G H m_T_bindTerms d n0 z0 (o G) K' 14 [(0, .ref (cp_b G + 24)), (1, va_rf (kr G p1)), (2, .int x2), (3, .int x3), (4, va_rf (kr G p4))] [] K
  refine kv_p (fun _ _ _ _ _ _ v => vv_aloadr (pc := 14) d_T_bindTerms_14 (cp_isr_rf (kr G p4)) rfl v) ?_
  refine kw_ifnull (pc := 16) (tgt := 52) d_T_bindTerms_16 rfl (fun hc => ?_) (fun hc => ?_)
  · replace w := w.1 hc
    refine kv_p (fun _ _ _ _ _ _ v => vv_iload_n (pc := 52) d_T_bindTerms_52 rfl v) ?_
    obtain ⟨rfl, rfl⟩ := w
    exact kv_e (fun _ _ => vv_iret (pc := 53) d_T_bindTerms_53 rfl)
  · replace w := w.2 hc
    refine kv_p (fun _ _ _ _ _ _ v => vv_aloadr (pc := 19) d_T_bindTerms_19 (cp_isr_rf (kr G p4)) rfl v) ?_
    refine kv_p (fun _ _ _ _ _ _ v => vv_aload_nr (pc := 21) d_T_bindTerms_21 (cp_isr_rf (kr G p1)) rfl v) ?_
    obtain ⟨b1, w⟩ := w
    refine kw_grN (pc := 22) d_T_bindTerms_22 fl_T_151 b1 rfl rfl ?_
    refine kw_acmp_eq (pc := 25) (tgt := 52) d_T_bindTerms_25 rfl (fun hc => ?_) (fun hc => ?_)
    · replace w := w.1 hc
      refine kv_p (fun _ _ _ _ _ _ v => vv_iload_n (pc := 52) d_T_bindTerms_52 rfl v) ?_
      obtain ⟨rfl, rfl⟩ := w
      exact kv_e (fun _ _ => vv_iret (pc := 53) d_T_bindTerms_53 rfl)
    · replace w := w.2 hc
      refine kv_p (fun _ _ _ _ _ _ v => vv_aload_n (pc := 28) d_T_bindTerms_28 rfl v) ?_
      refine kw_gf (pc := 29) 14 d_T_bindTerms_29 fl_T_19 (Or.inl ⟨by decide, rfl⟩) rfl (by decide) ?_
      refine kv_p (fun _ _ _ _ _ _ v => vv_aload_n (pc := 32) d_T_bindTerms_32 rfl v) ?_
      refine kv_p (fun _ _ _ _ _ _ v => vv_aloadr (pc := 33) d_T_bindTerms_33 (cp_isr_rf (kr G p4)) rfl v) ?_
      refine kv_p (fun _ _ _ _ _ _ v => vv_iload_n (pc := 35) d_T_bindTerms_35 rfl v) ?_
      obtain ⟨r4, T2, c3, w⟩ := w
      refine kw_cv (pc := 36) (As := [va_rf (kr G p4), .int x2]) d_T_bindTerms_36 c3 rfl k_T_valueBy ml_T_163 (Or.inl ⟨by decide, rfl⟩) (by omega) (Nat.le_of_ble_eq_true rfl) ?_
      obtain ⟨b5, w⟩ := w
      refine kw_cv (pc := 39) (As := [.int r4]) (As0 := (fun G => [.ref (cp_b G + 14), .int r4])) d_T_bindTerms_39 (C_Bpu b5) rfl k_B_pushUnnamed ml_T_55 (Or.inl ⟨by decide, rfl⟩) (by omega) (Nat.le_of_ble_eq_true rfl) ?_
      refine kv_p (fun _ _ _ _ _ _ v => vv_aloadr (pc := 42) d_T_bindTerms_42 (cp_isr_rf (kr G p4)) rfl v) ?_
      obtain ⟨b6, w⟩ := w
      refine kw_grN (pc := 44) d_T_bindTerms_44 fl_T_61 (nd_bpush b6) rfl rfl ?_
      refine kv_p (fun _ _ _ _ _ _ v => vv_astore (pc := 47) d_T_bindTerms_47 (cp_isr_rf (kr G ((bpush T2 0 r4 (-1)).2.2.1 p4 6))) (Nat.le_of_ble_eq_true rfl) v) ?_
      refine kv_p (fun _ _ _ _ _ _ v => vv_goto (pc := 49) (tgt := 14) d_T_bindTerms_49 rfl v) ?_
      exact kw_sub [1, 2, 3, 4, 0] rfl (w G H d n0 z0 hd)
def wp_T_valueBy_0 (D : Nat) (o : cp_G → cp_O) (K' K : cp_K) (p1 : Nat) (x2 : Int32) : Prop := nd K p1 9 ∧ ((¬ ((K.2.1 p1 0) : Int32) = 5 → ((((K.2.1 p1 0) : Int32) = 6 → JC (D + 8) m_T_valueBy o K' 60 (fun G => [(0, .ref (cp_b G + 24)), (1, va_rf (kr G p1)), (2, .int x2), (3, .int (nI (rsz K 15))), (4, va_rf (kr G (K.2.2.1 p1 4)))]) (fun _ => []) K) ∧ (¬ ((K.2.1 p1 0) : Int32) = 6 → rsz K 7 + 2 < k_lim 7 ∧ (o = (fun _ => .inl (some (.int (nI (rsz K 7))))) ∧ K' = (mks K (K.2.1 p1 0) (K.2.1 p1 1)))))) ∧ (((K.2.1 p1 0) : Int32) = 5 → ∃ r5 T3, KC (D + 7) m_B_valueOf (fun G => [.ref (cp_b G + 14), .int (K.2.1 p1 1), .int x2]) K (fun _ => some (.int r5)) T3 ∧ (o = (fun _ => .inl (some (.int r5))) ∧ K' = T3)))
theorem b_T_valueBy_0 {D : Nat} {o : cp_G → cp_O} {K' K : cp_K} {p1 : Nat} {x2 : Int32} (w : wp_T_valueBy_0 D o K' K p1 x2) : JC (D + 8) m_T_valueBy o K' 0 (fun G => [(0, .ref (cp_b G + 24)), (1, va_rf (kr G p1)), (2, .int x2)]) (fun _ => []) K := by
  unfold wp_T_valueBy_0 at w
  intro G H d n0 z0 hd
  show kV G H m_T_valueBy d n0 z0 (o G) K' 0 [(0, .ref (cp_b G + 24)), (1, va_rf (kr G p1)), (2, .int x2)] [] K
  refine kv_p (fun _ _ _ _ _ _ v => vv_aload_nr (pc := 0) d_T_valueBy_0 (cp_isr_rf (kr G p1)) rfl v) ?_
  obtain ⟨b1, w⟩ := w
  refine kw_giN (pc := 1) d_T_valueBy_1 fl_T_64 b1 rfl rfl ?_
  refine kv_p (fun _ _ _ _ _ _ v => vv_iconst (pc := 4) (v := 5) d_T_valueBy_4 rfl v) ?_
  by_cases hc : ((K.2.1 p1 0) : Int32) = 5
  · replace w := w.2 hc
    refine kv_p (fun _ _ _ _ _ _ v => vv_icmp_ne (pc := 5) (tgt := 21) d_T_valueBy_5 rfl (fun hn => absurd hc hn) (fun _ => v)) ?_
    refine kv_p (fun _ _ _ _ _ _ v => vv_aload_n (pc := 8) d_T_valueBy_8 rfl v) ?_
    refine kw_gf (pc := 9) 14 d_T_valueBy_9 fl_T_19 (Or.inl ⟨by decide, rfl⟩) rfl (by decide) ?_
    refine kv_p (fun _ _ _ _ _ _ v => vv_aload_nr (pc := 12) d_T_valueBy_12 (cp_isr_rf (kr G p1)) rfl v) ?_
    refine kw_giN (pc := 13) d_T_valueBy_13 fl_T_78 b1 rfl rfl ?_
    refine kv_p (fun _ _ _ _ _ _ v => vv_iload_n (pc := 16) d_T_valueBy_16 rfl v) ?_
    obtain ⟨r5, T3, c4, w⟩ := w
    refine kw_cv (pc := 17) (As := [.int (K.2.1 p1 1), .int x2]) d_T_valueBy_17 c4 rfl k_B_valueOf ml_T_184 (Or.inl ⟨by decide, rfl⟩) (by omega) (Nat.le_of_ble_eq_true rfl) ?_
    obtain ⟨rfl, rfl⟩ := w
    exact kv_e (fun _ _ => vv_iret (pc := 20) d_T_valueBy_20 rfl)
  · replace w := w.1 hc
    refine kv_p (fun _ _ _ _ _ _ v => vv_icmp_ne (pc := 5) (tgt := 21) d_T_valueBy_5 rfl (fun _ => v) (fun hn => absurd hn hc)) ?_
    refine kv_p (fun _ _ _ _ _ _ v => vv_aload_nr (pc := 21) d_T_valueBy_21 (cp_isr_rf (kr G p1)) rfl v) ?_
    refine kw_giN (pc := 22) d_T_valueBy_22 fl_T_64 b1 rfl rfl ?_
    refine kv_p (fun _ _ _ _ _ _ v => vv_bipush (pc := 25) (v := 6) d_T_valueBy_25 rfl v) ?_
    by_cases hc : ((K.2.1 p1 0) : Int32) = 6
    · replace w := w.1 hc
      refine kv_p (fun _ _ _ _ _ _ v => vv_icmp_eq (pc := 27) (tgt := 46) d_T_valueBy_27 rfl (fun _ => v) (fun hn => absurd hc hn)) ?_
      refine kv_p (fun _ _ _ _ _ _ v => vv_aload_n (pc := 46) d_T_valueBy_46 rfl v) ?_
      refine kw_gf (pc := 47) 14 d_T_valueBy_47 fl_T_19 (Or.inl ⟨by decide, rfl⟩) rfl (by decide) ?_
      refine kw_cv (pc := 50) (As := []) (As0 := (fun G => [.ref (cp_b G + 14)])) d_T_valueBy_50 (C_Bsize) rfl k_B_size ml_T_111 (Or.inl ⟨by decide, rfl⟩) (by omega) (Nat.le_of_ble_eq_true rfl) ?_
      refine kv_p (fun _ _ _ _ _ _ v => vv_istore_n (pc := 53) d_T_valueBy_53 (Nat.le_of_ble_eq_true rfl) v) ?_
      refine kv_p (fun _ _ _ _ _ _ v => vv_aload_nr (pc := 54) d_T_valueBy_54 (cp_isr_rf (kr G p1)) rfl v) ?_
      refine kw_grN (pc := 55) d_T_valueBy_55 fl_T_49 b1 rfl rfl ?_
      refine kv_p (fun _ _ _ _ _ _ v => vv_astore (pc := 58) d_T_valueBy_58 (cp_isr_rf (kr G (K.2.2.1 p1 4))) (Nat.le_of_ble_eq_true rfl) v) ?_
      exact kw_sub [2, 3, 4, 1, 0] rfl (w G H d n0 z0 hd)
    · replace w := w.2 hc
      refine kv_p (fun _ _ _ _ _ _ v => vv_icmp_eq (pc := 27) (tgt := 46) d_T_valueBy_27 rfl (fun hn => absurd hn hc) (fun _ => v)) ?_
      refine kv_p (fun _ _ _ _ _ _ v => vv_aload_n (pc := 30) d_T_valueBy_30 rfl v) ?_
      refine kw_gf (pc := 31) 6 d_T_valueBy_31 fl_T_15 (Or.inl ⟨by decide, rfl⟩) rfl (by decide) ?_
      refine kv_p (fun _ _ _ _ _ _ v => vv_aload_nr (pc := 34) d_T_valueBy_34 (cp_isr_rf (kr G p1)) rfl v) ?_
      refine kw_giN (pc := 35) d_T_valueBy_35 fl_T_64 b1 rfl rfl ?_
      refine kv_p (fun _ _ _ _ _ _ v => vv_aload_nr (pc := 38) d_T_valueBy_38 (cp_isr_rf (kr G p1)) rfl v) ?_
      refine kw_giN (pc := 39) d_T_valueBy_39 fl_T_78 b1 rfl rfl ?_
      obtain ⟨b2, w⟩ := w
      refine kw_cv (pc := 42) (As := [.int (K.2.1 p1 0), .int (K.2.1 p1 1)]) (As0 := (fun G => [.ref (cp_b G + 6), .int (K.2.1 p1 0), .int (K.2.1 p1 1)])) d_T_valueBy_42 (C_VmakeSimple b2) rfl k_V_makeSimple ml_T_118 (Or.inl ⟨by decide, rfl⟩) (by omega) (Nat.le_of_ble_eq_true rfl) ?_
      obtain ⟨rfl, rfl⟩ := w
      exact kv_e (fun _ _ => vv_iret (pc := 45) d_T_valueBy_45 rfl)
theorem c_T_valueBy {D : Nat} {o : cp_G → Option Value} {K' K : cp_K} {p1 : Nat} {x2 : Int32} (w : wp_T_valueBy_0 D (fun G => .inl (o G)) K' K p1 x2) : KC (D + 8) m_T_valueBy (fun G => [.ref (cp_b G + 24), va_rf (kr G p1), .int x2]) K o K' := KC.of2 rfl (fun G => by cases kr G p1 <;> exact ⟨Nat.le_of_ble_eq_true rfl, rfl⟩) (b_T_valueBy_0 w)
def wp_T_valueBy_60 (D : Nat) (o : cp_G → cp_O) (K' K : cp_K) (p1 : Nat) (x2 : Int32) (x3 : Int32) (p4 : Nat) : Prop := ((p4 = (0 : Nat) → nd K p1 9 ∧ ∃ r4 T2, KC (D + 7) m_V_makeConstant (fun G => [.ref (cp_b G + 6), .int (K.2.1 p1 1), .ref (cp_b G + 14), .int x3]) K (fun _ => some (.int r4)) T2 ∧ (o = (fun _ => .inl (some (.int r4))) ∧ K' = (bcut T2 x3))) ∧ (¬ p4 = (0 : Nat) → ∃ r7 T5, KC (D + 7) m_T_valueBy (fun G => [.ref (cp_b G + 24), va_rf (kr G p4), .int x2]) K (fun _ => some (.int r7)) T5 ∧ (rsz T5 15 < k_lim 15 ∧ rsz T5 17 < k_lim 17 ∧ rsz T5 19 < k_lim 19) ∧ nd T5 p4 9 ∧ JC (D + 8) m_T_valueBy o K' 60 (fun G => [(0, .ref (cp_b G + 24)), (1, va_rf (kr G p1)), (2, .int x2), (3, .int x3), (4, va_rf (kr G ((bpush T5 0 r7 (-1)).2.2.1 p4 6)))]) (fun _ => []) (bpush T5 0 r7 (-1))))
theorem b_T_valueBy_60 {D : Nat} {o : cp_G → cp_O} {K' K : cp_K} {p1 : Nat} {x2 : Int32} {x3 : Int32} {p4 : Nat} (w : wp_T_valueBy_60 D o K' K p1 x2 x3 p4) : JC (D + 8) m_T_valueBy o K' 60 (fun G => [(0, .ref (cp_b G + 24)), (1, va_rf (kr G p1)), (2, .int x2), (3, .int x3), (4, va_rf (kr G p4))]) (fun _ => []) K := by
  unfold wp_T_valueBy_60 at w
  intro G H d n0 z0 hd
  show kV G H m_T_valueBy d n0 z0 (o G) K' 60 [(0, .ref (cp_b G + 24)), (1, va_rf (kr G p1)), (2, .int x2), (3, .int x3), (4, va_rf (kr G p4))] [] K
  refine kv_p (fun _ _ _ _ _ _ v => vv_aloadr (pc := 60) d_T_valueBy_60 (cp_isr_rf (kr G p4)) rfl v) ?_
  refine kw_ifnull (pc := 62) (tgt := 89) d_T_valueBy_62 rfl (fun hc => ?_) (fun hc => ?_)
  · replace w := w.1 hc
    refine kv_p (fun _ _ _ _ _ _ v => vv_aload_n (pc := 89) d_T_valueBy_89 rfl v) ?_
    refine kw_gf (pc := 90) 6 d_T_valueBy_90 fl_T_15 (Or.inl ⟨by decide, rfl⟩) rfl (by decide) ?_
    refine kv_p (fun _ _ _ _ _ _ v => vv_aload_nr (pc := 93) d_T_valueBy_93 (cp_isr_rf (kr G p1)) rfl v) ?_
    obtain ⟨b1, w⟩ := w
    refine kw_giN (pc := 94) d_T_valueBy_94 fl_T_78 b1 rfl rfl ?_
    refine kv_p (fun _ _ _ _ _ _ v => vv_aload_n (pc := 97) d_T_valueBy_97 rfl v) ?_
    refine kw_gf (pc := 98) 14 d_T_valueBy_98 fl_T_19 (Or.inl ⟨by decide, rfl⟩) rfl (by decide) ?_
    refine kv_p (fun _ _ _ _ _ _ v => vv_iload_n (pc := 101) d_T_valueBy_101 rfl v) ?_
    obtain ⟨r4, T2, c3, w⟩ := w
    refine kw_cv (pc := 102) (As := [.int (K.2.1 p1 1), .ref (cp_b G + 14), .int x3]) d_T_valueBy_102 c3 rfl k_V_makeConstant ml_T_174 (Or.inl ⟨by decide, rfl⟩) (by omega) (Nat.le_of_ble_eq_true rfl) ?_
    refine kv_p (fun _ _ _ _ _ _ v => vv_istore (pc := 105) d_T_valueBy_105 (Nat.le_of_ble_eq_true rfl) v) ?_
    refine kv_p (fun _ _ _ _ _ _ v => vv_aload_n (pc := 107) d_T_valueBy_107 rfl v) ?_
    refine kw_gf (pc := 108) 14 d_T_valueBy_108 fl_T_19 (Or.inl ⟨by decide, rfl⟩) rfl (by decide) ?_
    refine kv_p (fun _ _ _ _ _ _ v => vv_iload_n (pc := 111) d_T_valueBy_111 rfl v) ?_
    refine kw_cv (pc := 112) (As := [.int x3]) (As0 := (fun G => [.ref (cp_b G + 14), .int x3])) d_T_valueBy_112 (C_Bcut) rfl k_B_cut ml_T_178 (Or.inl ⟨by decide, rfl⟩) (by omega) (Nat.le_of_ble_eq_true rfl) ?_
    refine kv_p (fun _ _ _ _ _ _ v => vv_iload (pc := 115) d_T_valueBy_115 rfl v) ?_
    obtain ⟨rfl, rfl⟩ := w
    exact kv_e (fun _ _ => vv_iret (pc := 117) d_T_valueBy_117 rfl)
  · replace w := w.2 hc
    refine kv_p (fun _ _ _ _ _ _ v => vv_aload_n (pc := 65) d_T_valueBy_65 rfl v) ?_
    refine kw_gf (pc := 66) 14 d_T_valueBy_66 fl_T_19 (Or.inl ⟨by decide, rfl⟩) rfl (by decide) ?_
    refine kv_p (fun _ _ _ _ _ _ v => vv_aload_n (pc := 69) d_T_valueBy_69 rfl v) ?_
    refine kv_p (fun _ _ _ _ _ _ v => vv_aloadr (pc := 70) d_T_valueBy_70 (cp_isr_rf (kr G p4)) rfl v) ?_
    refine kv_p (fun _ _ _ _ _ _ v => vv_iload_n (pc := 72) d_T_valueBy_72 rfl v) ?_
    obtain ⟨r7, T5, c6, w⟩ := w
    refine kw_cv (pc := 73) (As := [va_rf (kr G p4), .int x2]) d_T_valueBy_73 c6 rfl k_T_valueBy ml_T_163 (Or.inl ⟨by decide, rfl⟩) (by omega) (Nat.le_of_ble_eq_true rfl) ?_
    obtain ⟨b8, w⟩ := w
    refine kw_cv (pc := 76) (As := [.int r7]) (As0 := (fun G => [.ref (cp_b G + 14), .int r7])) d_T_valueBy_76 (C_Bpu b8) rfl k_B_pushUnnamed ml_T_55 (Or.inl ⟨by decide, rfl⟩) (by omega) (Nat.le_of_ble_eq_true rfl) ?_
    refine kv_p (fun _ _ _ _ _ _ v => vv_aloadr (pc := 79) d_T_valueBy_79 (cp_isr_rf (kr G p4)) rfl v) ?_
    obtain ⟨b9, w⟩ := w
    refine kw_grN (pc := 81) d_T_valueBy_81 fl_T_61 (nd_bpush b9) rfl rfl ?_
    refine kv_p (fun _ _ _ _ _ _ v => vv_astore (pc := 84) d_T_valueBy_84 (cp_isr_rf (kr G ((bpush T5 0 r7 (-1)).2.2.1 p4 6))) (Nat.le_of_ble_eq_true rfl) v) ?_
    refine kv_p (fun _ _ _ _ _ _ v => vv_goto (pc := 86) (tgt := 60) d_T_valueBy_86 rfl v) ?_
    exact kw_sub [1, 2, 3, 4, 0] rfl (w G H d n0 z0 hd)
