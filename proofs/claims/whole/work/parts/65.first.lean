/-! ===== the class's methods that call only Row's, block by block (printed by cxa.py) ===== -/
def wp_B_size_0 (D : Nat) (o : cp_G → cp_O) (K' K : cp_K) : Prop := (o = (fun _ => .inl (some (.int (nI (rsz K 15))))) ∧ K' = K)
theorem b_B_size_0 {D : Nat} {o : cp_G → cp_O} {K' K : cp_K} (w : wp_B_size_0 D o K' K) : JC (D + 6) m_B_size o K' 0 (fun G => [(0, .ref (cp_b G + 14))]) (fun _ => []) K := by
  unfold wp_B_size_0 at w
  intro G H d n0 z0 hd
  show kV G H m_B_size d n0 z0 (o G) K' 0 [(0, .ref (cp_b G + 14))] [] K
  refine kv_p (fun _ _ _ _ _ _ v => vv_aload_n (pc := 0) d_B_size_0 rfl v) ?_
  refine kw_gf (pc := 1) 15 d_B_size_1 fl_B_14 (Or.inl ⟨by decide, rfl⟩) rfl (by decide) ?_
  refine kw_cr (pc := 4) (As := []) (As0 := (fun G => [.ref (cp_b G + 15)])) d_B_size_4 (K_size (by decide)) rfl k_R_size ml_B_26 (by decide) (by omega) (Nat.le_of_ble_eq_true rfl) ?_
  obtain ⟨rfl, rfl⟩ := w
  exact kv_e (fun _ _ => vv_iret (pc := 7) d_B_size_7 rfl)
theorem c_B_size {D : Nat} {o : cp_G → Option Value} {K' K : cp_K} (w : wp_B_size_0 D (fun G => .inl (o G)) K' K) : KC (D + 6) m_B_size (fun G => [.ref (cp_b G + 14)]) K o K' := KC.of2 rfl (fun G => by exact ⟨Nat.le_of_ble_eq_true rfl, rfl⟩) (b_B_size_0 w)
def wp_B_push_0 (D : Nat) (o : cp_G → cp_O) (K' K : cp_K) (x1 : Int32) (x2 : Int32) (x3 : Int32) : Prop := rsz K 15 < k_lim 15 ∧ rsz (kpush K 15 x1) 17 < k_lim 17 ∧ rsz (kpush (kpush K 15 x1) 17 x2) 19 < k_lim 19 ∧ (o = (fun _ => .inl none) ∧ K' = (kpush (kpush (kpush K 15 x1) 17 x2) 19 x3))
theorem b_B_push_0 {D : Nat} {o : cp_G → cp_O} {K' K : cp_K} {x1 : Int32} {x2 : Int32} {x3 : Int32} (w : wp_B_push_0 D o K' K x1 x2 x3) : JC (D + 6) m_B_push o K' 0 (fun G => [(0, .ref (cp_b G + 14)), (1, .int x1), (2, .int x2), (3, .int x3)]) (fun _ => []) K := by
  unfold wp_B_push_0 at w
  intro G H d n0 z0 hd
  show kV G H m_B_push d n0 z0 (o G) K' 0 [(0, .ref (cp_b G + 14)), (1, .int x1), (2, .int x2), (3, .int x3)] [] K
  refine kv_p (fun _ _ _ _ _ _ v => vv_aload_n (pc := 0) d_B_push_0 rfl v) ?_
  refine kw_gf (pc := 1) 15 d_B_push_1 fl_B_14 (Or.inl ⟨by decide, rfl⟩) rfl (by decide) ?_
  refine kv_p (fun _ _ _ _ _ _ v => vv_iload_n (pc := 4) d_B_push_4 rfl v) ?_
  obtain ⟨b1, w⟩ := w
  refine kw_cr (pc := 5) (As := [.int x1]) (As0 := (fun G => [.ref (cp_b G + 15), .int x1])) d_B_push_5 (K_push (by decide) b1) rfl k_R_push ml_B_30 (by decide) (by omega) (Nat.le_of_ble_eq_true rfl) ?_
  refine kv_p (fun _ _ _ _ _ _ v => vv_aload_n (pc := 8) d_B_push_8 rfl v) ?_
  refine kw_gf (pc := 9) 17 d_B_push_9 fl_B_20 (Or.inl ⟨by decide, rfl⟩) rfl (by decide) ?_
  refine kv_p (fun _ _ _ _ _ _ v => vv_iload_n (pc := 12) d_B_push_12 rfl v) ?_
  obtain ⟨b2, w⟩ := w
  refine kw_cr (pc := 13) (As := [.int x2]) (As0 := (fun G => [.ref (cp_b G + 17), .int x2])) d_B_push_13 (K_push (by decide) b2) rfl k_R_push ml_B_30 (by decide) (by omega) (Nat.le_of_ble_eq_true rfl) ?_
  refine kv_p (fun _ _ _ _ _ _ v => vv_aload_n (pc := 16) d_B_push_16 rfl v) ?_
  refine kw_gf (pc := 17) 19 d_B_push_17 fl_B_23 (Or.inl ⟨by decide, rfl⟩) rfl (by decide) ?_
  refine kv_p (fun _ _ _ _ _ _ v => vv_iload_n (pc := 20) d_B_push_20 rfl v) ?_
  obtain ⟨b3, w⟩ := w
  refine kw_cr (pc := 21) (As := [.int x3]) (As0 := (fun G => [.ref (cp_b G + 19), .int x3])) d_B_push_21 (K_push (by decide) b3) rfl k_R_push ml_B_30 (by decide) (by omega) (Nat.le_of_ble_eq_true rfl) ?_
  obtain ⟨rfl, rfl⟩ := w
  exact kv_e (fun _ _ => vv_vret (pc := 24) d_B_push_24 rfl)
theorem c_B_push {D : Nat} {o : cp_G → Option Value} {K' K : cp_K} {x1 : Int32} {x2 : Int32} {x3 : Int32} (w : wp_B_push_0 D (fun G => .inl (o G)) K' K x1 x2 x3) : KC (D + 6) m_B_push (fun G => [.ref (cp_b G + 14), .int x1, .int x2, .int x3]) K o K' := KC.of2 rfl (fun G => by exact ⟨Nat.le_of_ble_eq_true rfl, rfl⟩) (b_B_push_0 w)
def wp_B_rename_0 (D : Nat) (o : cp_G → cp_O) (K' K : cp_K) (x1 : Int32) (x2 : Int32) : Prop := (o = (fun _ => .inl none) ∧ K' = (kset K 15 x1 x2))
theorem b_B_rename_0 {D : Nat} {o : cp_G → cp_O} {K' K : cp_K} {x1 : Int32} {x2 : Int32} (w : wp_B_rename_0 D o K' K x1 x2) : JC (D + 6) m_B_rename o K' 0 (fun G => [(0, .ref (cp_b G + 14)), (1, .int x1), (2, .int x2)]) (fun _ => []) K := by
  unfold wp_B_rename_0 at w
  intro G H d n0 z0 hd
  show kV G H m_B_rename d n0 z0 (o G) K' 0 [(0, .ref (cp_b G + 14)), (1, .int x1), (2, .int x2)] [] K
  refine kv_p (fun _ _ _ _ _ _ v => vv_aload_n (pc := 0) d_B_rename_0 rfl v) ?_
  refine kw_gf (pc := 1) 15 d_B_rename_1 fl_B_14 (Or.inl ⟨by decide, rfl⟩) rfl (by decide) ?_
  refine kv_p (fun _ _ _ _ _ _ v => vv_iload_n (pc := 4) d_B_rename_4 rfl v) ?_
  refine kv_p (fun _ _ _ _ _ _ v => vv_iload_n (pc := 5) d_B_rename_5 rfl v) ?_
  refine kw_cr (pc := 6) (As := [.int x1, .int x2]) (As0 := (fun G => [.ref (cp_b G + 15), .int x1, .int x2])) d_B_rename_6 (K_set (by decide)) rfl k_R_set ml_B_36 (by decide) (by omega) (Nat.le_of_ble_eq_true rfl) ?_
  obtain ⟨rfl, rfl⟩ := w
  exact kv_e (fun _ _ => vv_vret (pc := 9) d_B_rename_9 rfl)
theorem c_B_rename {D : Nat} {o : cp_G → Option Value} {K' K : cp_K} {x1 : Int32} {x2 : Int32} (w : wp_B_rename_0 D (fun G => .inl (o G)) K' K x1 x2) : KC (D + 6) m_B_rename (fun G => [.ref (cp_b G + 14), .int x1, .int x2]) K o K' := KC.of2 rfl (fun G => by exact ⟨Nat.le_of_ble_eq_true rfl, rfl⟩) (b_B_rename_0 w)
def wp_B_cut_0 (D : Nat) (o : cp_G → cp_O) (K' K : cp_K) (x1 : Int32) : Prop := (o = (fun _ => .inl none) ∧ K' = (kcut (kcut (kcut K 15 x1) 17 x1) 19 x1))
theorem b_B_cut_0 {D : Nat} {o : cp_G → cp_O} {K' K : cp_K} {x1 : Int32} (w : wp_B_cut_0 D o K' K x1) : JC (D + 6) m_B_cut o K' 0 (fun G => [(0, .ref (cp_b G + 14)), (1, .int x1)]) (fun _ => []) K := by
  unfold wp_B_cut_0 at w
  intro G H d n0 z0 hd
  show kV G H m_B_cut d n0 z0 (o G) K' 0 [(0, .ref (cp_b G + 14)), (1, .int x1)] [] K
  refine kv_p (fun _ _ _ _ _ _ v => vv_aload_n (pc := 0) d_B_cut_0 rfl v) ?_
  refine kw_gf (pc := 1) 15 d_B_cut_1 fl_B_14 (Or.inl ⟨by decide, rfl⟩) rfl (by decide) ?_
  refine kv_p (fun _ _ _ _ _ _ v => vv_iload_n (pc := 4) d_B_cut_4 rfl v) ?_
  refine kw_cr (pc := 5) (As := [.int x1]) (As0 := (fun G => [.ref (cp_b G + 15), .int x1])) d_B_cut_5 (K_cut (by decide)) rfl k_R_cut ml_B_40 (by decide) (by omega) (Nat.le_of_ble_eq_true rfl) ?_
  refine kv_p (fun _ _ _ _ _ _ v => vv_aload_n (pc := 8) d_B_cut_8 rfl v) ?_
  refine kw_gf (pc := 9) 17 d_B_cut_9 fl_B_20 (Or.inl ⟨by decide, rfl⟩) rfl (by decide) ?_
  refine kv_p (fun _ _ _ _ _ _ v => vv_iload_n (pc := 12) d_B_cut_12 rfl v) ?_
  refine kw_cr (pc := 13) (As := [.int x1]) (As0 := (fun G => [.ref (cp_b G + 17), .int x1])) d_B_cut_13 (K_cut (by decide)) rfl k_R_cut ml_B_40 (by decide) (by omega) (Nat.le_of_ble_eq_true rfl) ?_
  refine kv_p (fun _ _ _ _ _ _ v => vv_aload_n (pc := 16) d_B_cut_16 rfl v) ?_
  refine kw_gf (pc := 17) 19 d_B_cut_17 fl_B_23 (Or.inl ⟨by decide, rfl⟩) rfl (by decide) ?_
  refine kv_p (fun _ _ _ _ _ _ v => vv_iload_n (pc := 20) d_B_cut_20 rfl v) ?_
  refine kw_cr (pc := 21) (As := [.int x1]) (As0 := (fun G => [.ref (cp_b G + 19), .int x1])) d_B_cut_21 (K_cut (by decide)) rfl k_R_cut ml_B_40 (by decide) (by omega) (Nat.le_of_ble_eq_true rfl) ?_
  obtain ⟨rfl, rfl⟩ := w
  exact kv_e (fun _ _ => vv_vret (pc := 24) d_B_cut_24 rfl)
theorem c_B_cut {D : Nat} {o : cp_G → Option Value} {K' K : cp_K} {x1 : Int32} (w : wp_B_cut_0 D (fun G => .inl (o G)) K' K x1) : KC (D + 6) m_B_cut (fun G => [.ref (cp_b G + 14), .int x1]) K o K' := KC.of2 rfl (fun G => by exact ⟨Nat.le_of_ble_eq_true rfl, rfl⟩) (b_B_cut_0 w)
def wp_B_indexOf_0 (D : Nat) (o : cp_G → cp_O) (K' K : cp_K) (x1 : Int32) (x2 : Int32) (x3 : Int32) : Prop := JC (D + 6) m_B_indexOf o K' 5 (fun G => [(0, .ref (cp_b G + 14)), (1, .int x1), (2, .int x2), (3, .int x3), (4, .int (x3 - 1))]) (fun _ => []) K
theorem b_B_indexOf_0 {D : Nat} {o : cp_G → cp_O} {K' K : cp_K} {x1 : Int32} {x2 : Int32} {x3 : Int32} (w : wp_B_indexOf_0 D o K' K x1 x2 x3) : JC (D + 6) m_B_indexOf o K' 0 (fun G => [(0, .ref (cp_b G + 14)), (1, .int x1), (2, .int x2), (3, .int x3)]) (fun _ => []) K := by
  unfold wp_B_indexOf_0 at w
  intro G H d n0 z0 hd
  show kV G H m_B_indexOf d n0 z0 (o G) K' 0 [(0, .ref (cp_b G + 14)), (1, .int x1), (2, .int x2), (3, .int x3)] [] K
  refine kv_p (fun _ _ _ _ _ _ v => vv_iload_n (pc := 0) d_B_indexOf_0 rfl v) ?_
  refine kv_p (fun _ _ _ _ _ _ v => vv_iconst (pc := 1) (v := 1) d_B_indexOf_1 rfl v) ?_
  refine kv_p (fun _ _ _ _ _ _ v => vv_isub (pc := 2) d_B_indexOf_2 v) ?_
  refine kv_p (fun _ _ _ _ _ _ v => vv_istore (pc := 3) d_B_indexOf_3 (Nat.le_of_ble_eq_true rfl) v) ?_
  exact kw_sub [1, 2, 3, 4, 0] rfl (w G H d n0 z0 hd)
theorem c_B_indexOf {D : Nat} {o : cp_G → Option Value} {K' K : cp_K} {x1 : Int32} {x2 : Int32} {x3 : Int32} (w : wp_B_indexOf_0 D (fun G => .inl (o G)) K' K x1 x2 x3) : KC (D + 6) m_B_indexOf (fun G => [.ref (cp_b G + 14), .int x1, .int x2, .int x3]) K o K' := KC.of2 rfl (fun G => by exact ⟨Nat.le_of_ble_eq_true rfl, rfl⟩) (b_B_indexOf_0 w)
def wp_B_indexOf_5 (D : Nat) (o : cp_G → cp_O) (K' K : cp_K) (x1 : Int32) (x2 : Int32) (x3 : Int32) (x4 : Int32) : Prop := (((x4 : Int32) < x2 → (o = (fun _ => .inl (some (.int (-1)))) ∧ K' = K)) ∧ (¬ (x4 : Int32) < x2 → ((¬ ((rget K 15 x4) : Int32) = x1 → JC (D + 6) m_B_indexOf o K' 5 (fun G => [(0, .ref (cp_b G + 14)), (1, .int x1), (2, .int x2), (3, .int x3), (4, .int (x4 + (-1)))]) (fun _ => []) K) ∧ (((rget K 15 x4) : Int32) = x1 → (o = (fun _ => .inl (some (.int x4))) ∧ K' = K)))))
theorem b_B_indexOf_5 {D : Nat} {o : cp_G → cp_O} {K' K : cp_K} {x1 : Int32} {x2 : Int32} {x3 : Int32} {x4 : Int32} (w : wp_B_indexOf_5 D o K' K x1 x2 x3 x4) : JC (D + 6) m_B_indexOf o K' 5 (fun G => [(0, .ref (cp_b G + 14)), (1, .int x1), (2, .int x2), (3, .int x3), (4, .int x4)]) (fun _ => []) K := by
  unfold wp_B_indexOf_5 at w
  intro G H d n0 z0 hd
  show kV G H m_B_indexOf d n0 z0 (o G) K' 5 [(0, .ref (cp_b G + 14)), (1, .int x1), (2, .int x2), (3, .int x3), (4, .int x4)] [] K
  refine kv_p (fun _ _ _ _ _ _ v => vv_iload (pc := 5) d_B_indexOf_5 rfl v) ?_
  refine kv_p (fun _ _ _ _ _ _ v => vv_iload_n (pc := 7) d_B_indexOf_7 rfl v) ?_
  by_cases hc : (x4 : Int32) < x2
  · replace w := w.1 hc
    refine kv_p (fun _ _ _ _ _ _ v => vv_icmp_lt (pc := 8) (tgt := 33) d_B_indexOf_8 rfl (fun _ => v) (fun hn => absurd hc hn)) ?_
    refine kv_p (fun _ _ _ _ _ _ v => vv_iconst (pc := 33) (v := (-1)) d_B_indexOf_33 rfl v) ?_
    obtain ⟨rfl, rfl⟩ := w
    exact kv_e (fun _ _ => vv_iret (pc := 34) d_B_indexOf_34 rfl)
  · replace w := w.2 hc
    refine kv_p (fun _ _ _ _ _ _ v => vv_icmp_lt (pc := 8) (tgt := 33) d_B_indexOf_8 rfl (fun hn => absurd hn hc) (fun _ => v)) ?_
    refine kv_p (fun _ _ _ _ _ _ v => vv_aload_n (pc := 11) d_B_indexOf_11 rfl v) ?_
    refine kw_gf (pc := 12) 15 d_B_indexOf_12 fl_B_14 (Or.inl ⟨by decide, rfl⟩) rfl (by decide) ?_
    refine kv_p (fun _ _ _ _ _ _ v => vv_iload (pc := 15) d_B_indexOf_15 rfl v) ?_
    refine kw_cr (pc := 17) (As := [.int x4]) (As0 := (fun G => [.ref (cp_b G + 15), .int x4])) d_B_indexOf_17 (K_get (by decide)) rfl k_R_get ml_B_43 (by decide) (by omega) (Nat.le_of_ble_eq_true rfl) ?_
    refine kv_p (fun _ _ _ _ _ _ v => vv_iload_n (pc := 20) d_B_indexOf_20 rfl v) ?_
    by_cases hc : ((rget K 15 x4) : Int32) = x1
    · replace w := w.2 hc
      refine kv_p (fun _ _ _ _ _ _ v => vv_icmp_ne (pc := 21) (tgt := 27) d_B_indexOf_21 rfl (fun hn => absurd hc hn) (fun _ => v)) ?_
      refine kv_p (fun _ _ _ _ _ _ v => vv_iload (pc := 24) d_B_indexOf_24 rfl v) ?_
      obtain ⟨rfl, rfl⟩ := w
      exact kv_e (fun _ _ => vv_iret (pc := 26) d_B_indexOf_26 rfl)
    · replace w := w.1 hc
      refine kv_p (fun _ _ _ _ _ _ v => vv_icmp_ne (pc := 21) (tgt := 27) d_B_indexOf_21 rfl (fun _ => v) (fun hn => absurd hn hc)) ?_
      refine kv_p (fun _ _ _ _ _ _ v => vv_iinc (pc := 27) (v := (x4 + (-1))) d_B_indexOf_27 rfl rfl (Nat.le_of_ble_eq_true rfl) v) ?_
      refine kv_p (fun _ _ _ _ _ _ v => vv_goto (pc := 30) (tgt := 5) d_B_indexOf_30 rfl v) ?_
      exact kw_sub [1, 2, 3, 4, 0] rfl (w G H d n0 z0 hd)
def wp_B_valueAt_0 (D : Nat) (o : cp_G → cp_O) (K' K : cp_K) (x1 : Int32) : Prop := (o = (fun _ => .inl (some (.int (rget K 17 x1)))) ∧ K' = K)
theorem b_B_valueAt_0 {D : Nat} {o : cp_G → cp_O} {K' K : cp_K} {x1 : Int32} (w : wp_B_valueAt_0 D o K' K x1) : JC (D + 6) m_B_valueAt o K' 0 (fun G => [(0, .ref (cp_b G + 14)), (1, .int x1)]) (fun _ => []) K := by
  unfold wp_B_valueAt_0 at w
  intro G H d n0 z0 hd
  show kV G H m_B_valueAt d n0 z0 (o G) K' 0 [(0, .ref (cp_b G + 14)), (1, .int x1)] [] K
  refine kv_p (fun _ _ _ _ _ _ v => vv_aload_n (pc := 0) d_B_valueAt_0 rfl v) ?_
  refine kw_gf (pc := 1) 17 d_B_valueAt_1 fl_B_20 (Or.inl ⟨by decide, rfl⟩) rfl (by decide) ?_
  refine kv_p (fun _ _ _ _ _ _ v => vv_iload_n (pc := 4) d_B_valueAt_4 rfl v) ?_
  refine kw_cr (pc := 5) (As := [.int x1]) (As0 := (fun G => [.ref (cp_b G + 17), .int x1])) d_B_valueAt_5 (K_get (by decide)) rfl k_R_get ml_B_43 (by decide) (by omega) (Nat.le_of_ble_eq_true rfl) ?_
  obtain ⟨rfl, rfl⟩ := w
  exact kv_e (fun _ _ => vv_iret (pc := 8) d_B_valueAt_8 rfl)
theorem c_B_valueAt {D : Nat} {o : cp_G → Option Value} {K' K : cp_K} {x1 : Int32} (w : wp_B_valueAt_0 D (fun G => .inl (o G)) K' K x1) : KC (D + 6) m_B_valueAt (fun G => [.ref (cp_b G + 14), .int x1]) K o K' := KC.of2 rfl (fun G => by exact ⟨Nat.le_of_ble_eq_true rfl, rfl⟩) (b_B_valueAt_0 w)
def wp_B_typeAt_0 (D : Nat) (o : cp_G → cp_O) (K' K : cp_K) (x1 : Int32) : Prop := (o = (fun _ => .inl (some (.int (rget K 19 x1)))) ∧ K' = K)
theorem b_B_typeAt_0 {D : Nat} {o : cp_G → cp_O} {K' K : cp_K} {x1 : Int32} (w : wp_B_typeAt_0 D o K' K x1) : JC (D + 6) m_B_typeAt o K' 0 (fun G => [(0, .ref (cp_b G + 14)), (1, .int x1)]) (fun _ => []) K := by
  unfold wp_B_typeAt_0 at w
  intro G H d n0 z0 hd
  show kV G H m_B_typeAt d n0 z0 (o G) K' 0 [(0, .ref (cp_b G + 14)), (1, .int x1)] [] K
  refine kv_p (fun _ _ _ _ _ _ v => vv_aload_n (pc := 0) d_B_typeAt_0 rfl v) ?_
  refine kw_gf (pc := 1) 19 d_B_typeAt_1 fl_B_23 (Or.inl ⟨by decide, rfl⟩) rfl (by decide) ?_
  refine kv_p (fun _ _ _ _ _ _ v => vv_iload_n (pc := 4) d_B_typeAt_4 rfl v) ?_
  refine kw_cr (pc := 5) (As := [.int x1]) (As0 := (fun G => [.ref (cp_b G + 19), .int x1])) d_B_typeAt_5 (K_get (by decide)) rfl k_R_get ml_B_43 (by decide) (by omega) (Nat.le_of_ble_eq_true rfl) ?_
  obtain ⟨rfl, rfl⟩ := w
  exact kv_e (fun _ _ => vv_iret (pc := 8) d_B_typeAt_8 rfl)
theorem c_B_typeAt {D : Nat} {o : cp_G → Option Value} {K' K : cp_K} {x1 : Int32} (w : wp_B_typeAt_0 D (fun G => .inl (o G)) K' K x1) : KC (D + 6) m_B_typeAt (fun G => [.ref (cp_b G + 14), .int x1]) K o K' := KC.of2 rfl (fun G => by exact ⟨Nat.le_of_ble_eq_true rfl, rfl⟩) (b_B_typeAt_0 w)
def wp_V_clear_0 (D : Nat) (o : cp_G → cp_O) (K' K : cp_K) : Prop := (o = (fun _ => .inl none) ∧ K' = (kcut K 7 0))
theorem b_V_clear_0 {D : Nat} {o : cp_G → cp_O} {K' K : cp_K} (w : wp_V_clear_0 D o K' K) : JC (D + 6) m_V_clear o K' 0 (fun G => [(0, .ref (cp_b G + 6))]) (fun _ => []) K := by
  unfold wp_V_clear_0 at w
  intro G H d n0 z0 hd
  show kV G H m_V_clear d n0 z0 (o G) K' 0 [(0, .ref (cp_b G + 6))] [] K
  refine kv_p (fun _ _ _ _ _ _ v => vv_aload_n (pc := 0) d_V_clear_0 rfl v) ?_
  refine kw_gf (pc := 1) 7 d_V_clear_1 fl_V_14 (Or.inl ⟨by decide, rfl⟩) rfl (by decide) ?_
  refine kv_p (fun _ _ _ _ _ _ v => vv_iconst (pc := 4) (v := 0) d_V_clear_4 rfl v) ?_
  refine kw_cr (pc := 5) (As := [.int 0]) (As0 := (fun G => [.ref (cp_b G + 7), .int 0])) d_V_clear_5 (K_cut (by decide)) rfl k_R_cut ml_V_34 (by decide) (by omega) (Nat.le_of_ble_eq_true rfl) ?_
  obtain ⟨rfl, rfl⟩ := w
  exact kv_e (fun _ _ => vv_vret (pc := 8) d_V_clear_8 rfl)
theorem c_V_clear {D : Nat} {o : cp_G → Option Value} {K' K : cp_K} (w : wp_V_clear_0 D (fun G => .inl (o G)) K' K) : KC (D + 6) m_V_clear (fun G => [.ref (cp_b G + 6)]) K o K' := KC.of2 rfl (fun G => by exact ⟨Nat.le_of_ble_eq_true rfl, rfl⟩) (b_V_clear_0 w)
def wp_V_sortOf_0 (D : Nat) (o : cp_G → cp_O) (K' K : cp_K) (x1 : Int32) : Prop := (o = (fun _ => .inl (some (.int (rget K 7 x1)))) ∧ K' = K)
theorem b_V_sortOf_0 {D : Nat} {o : cp_G → cp_O} {K' K : cp_K} {x1 : Int32} (w : wp_V_sortOf_0 D o K' K x1) : JC (D + 6) m_V_sortOf o K' 0 (fun G => [(0, .ref (cp_b G + 6)), (1, .int x1)]) (fun _ => []) K := by
  unfold wp_V_sortOf_0 at w
  intro G H d n0 z0 hd
  show kV G H m_V_sortOf d n0 z0 (o G) K' 0 [(0, .ref (cp_b G + 6)), (1, .int x1)] [] K
  refine kv_p (fun _ _ _ _ _ _ v => vv_aload_n (pc := 0) d_V_sortOf_0 rfl v) ?_
  refine kw_gf (pc := 1) 7 d_V_sortOf_1 fl_V_14 (Or.inl ⟨by decide, rfl⟩) rfl (by decide) ?_
  refine kv_p (fun _ _ _ _ _ _ v => vv_iload_n (pc := 4) d_V_sortOf_4 rfl v) ?_
  refine kw_cr (pc := 5) (As := [.int x1]) (As0 := (fun G => [.ref (cp_b G + 7), .int x1])) d_V_sortOf_5 (K_get (by decide)) rfl k_R_get ml_V_37 (by decide) (by omega) (Nat.le_of_ble_eq_true rfl) ?_
  obtain ⟨rfl, rfl⟩ := w
  exact kv_e (fun _ _ => vv_iret (pc := 8) d_V_sortOf_8 rfl)
theorem c_V_sortOf {D : Nat} {o : cp_G → Option Value} {K' K : cp_K} {x1 : Int32} (w : wp_V_sortOf_0 D (fun G => .inl (o G)) K' K x1) : KC (D + 6) m_V_sortOf (fun G => [.ref (cp_b G + 6), .int x1]) K o K' := KC.of2 rfl (fun G => by exact ⟨Nat.le_of_ble_eq_true rfl, rfl⟩) (b_V_sortOf_0 w)
def wp_V_datumOf_0 (D : Nat) (o : cp_G → cp_O) (K' K : cp_K) (x1 : Int32) : Prop := (o = (fun _ => .inl (some (.int (rget K 7 (x1 + 1))))) ∧ K' = K)
theorem b_V_datumOf_0 {D : Nat} {o : cp_G → cp_O} {K' K : cp_K} {x1 : Int32} (w : wp_V_datumOf_0 D o K' K x1) : JC (D + 6) m_V_datumOf o K' 0 (fun G => [(0, .ref (cp_b G + 6)), (1, .int x1)]) (fun _ => []) K := by
  unfold wp_V_datumOf_0 at w
  intro G H d n0 z0 hd
  show kV G H m_V_datumOf d n0 z0 (o G) K' 0 [(0, .ref (cp_b G + 6)), (1, .int x1)] [] K
  refine kv_p (fun _ _ _ _ _ _ v => vv_aload_n (pc := 0) d_V_datumOf_0 rfl v) ?_
  refine kw_gf (pc := 1) 7 d_V_datumOf_1 fl_V_14 (Or.inl ⟨by decide, rfl⟩) rfl (by decide) ?_
  refine kv_p (fun _ _ _ _ _ _ v => vv_iload_n (pc := 4) d_V_datumOf_4 rfl v) ?_
  refine kv_p (fun _ _ _ _ _ _ v => vv_iconst (pc := 5) (v := 1) d_V_datumOf_5 rfl v) ?_
  refine kv_p (fun _ _ _ _ _ _ v => vv_iadd (pc := 6) d_V_datumOf_6 v) ?_
  refine kw_cr (pc := 7) (As := [.int (x1 + 1)]) (As0 := (fun G => [.ref (cp_b G + 7), .int (x1 + 1)])) d_V_datumOf_7 (K_get (by decide)) rfl k_R_get ml_V_37 (by decide) (by omega) (Nat.le_of_ble_eq_true rfl) ?_
  obtain ⟨rfl, rfl⟩ := w
  exact kv_e (fun _ _ => vv_iret (pc := 10) d_V_datumOf_10 rfl)
theorem c_V_datumOf {D : Nat} {o : cp_G → Option Value} {K' K : cp_K} {x1 : Int32} (w : wp_V_datumOf_0 D (fun G => .inl (o G)) K' K x1) : KC (D + 6) m_V_datumOf (fun G => [.ref (cp_b G + 6), .int x1]) K o K' := KC.of2 rfl (fun G => by exact ⟨Nat.le_of_ble_eq_true rfl, rfl⟩) (b_V_datumOf_0 w)
def wp_V_countOf_0 (D : Nat) (o : cp_G → cp_O) (K' K : cp_K) (x1 : Int32) : Prop := (o = (fun _ => .inl (some (.int (rget K 7 (x1 + 2))))) ∧ K' = K)
theorem b_V_countOf_0 {D : Nat} {o : cp_G → cp_O} {K' K : cp_K} {x1 : Int32} (w : wp_V_countOf_0 D o K' K x1) : JC (D + 6) m_V_countOf o K' 0 (fun G => [(0, .ref (cp_b G + 6)), (1, .int x1)]) (fun _ => []) K := by
  unfold wp_V_countOf_0 at w
  intro G H d n0 z0 hd
  show kV G H m_V_countOf d n0 z0 (o G) K' 0 [(0, .ref (cp_b G + 6)), (1, .int x1)] [] K
  refine kv_p (fun _ _ _ _ _ _ v => vv_aload_n (pc := 0) d_V_countOf_0 rfl v) ?_
  refine kw_gf (pc := 1) 7 d_V_countOf_1 fl_V_14 (Or.inl ⟨by decide, rfl⟩) rfl (by decide) ?_
  refine kv_p (fun _ _ _ _ _ _ v => vv_iload_n (pc := 4) d_V_countOf_4 rfl v) ?_
  refine kv_p (fun _ _ _ _ _ _ v => vv_iconst (pc := 5) (v := 2) d_V_countOf_5 rfl v) ?_
  refine kv_p (fun _ _ _ _ _ _ v => vv_iadd (pc := 6) d_V_countOf_6 v) ?_
  refine kw_cr (pc := 7) (As := [.int (x1 + 2)]) (As0 := (fun G => [.ref (cp_b G + 7), .int (x1 + 2)])) d_V_countOf_7 (K_get (by decide)) rfl k_R_get ml_V_37 (by decide) (by omega) (Nat.le_of_ble_eq_true rfl) ?_
  obtain ⟨rfl, rfl⟩ := w
  exact kv_e (fun _ _ => vv_iret (pc := 10) d_V_countOf_10 rfl)
theorem c_V_countOf {D : Nat} {o : cp_G → Option Value} {K' K : cp_K} {x1 : Int32} (w : wp_V_countOf_0 D (fun G => .inl (o G)) K' K x1) : KC (D + 6) m_V_countOf (fun G => [.ref (cp_b G + 6), .int x1]) K o K' := KC.of2 rfl (fun G => by exact ⟨Nat.le_of_ble_eq_true rfl, rfl⟩) (b_V_countOf_0 w)
def wp_V_argumentOf_0 (D : Nat) (o : cp_G → cp_O) (K' K : cp_K) (x1 : Int32) (x2 : Int32) : Prop := (o = (fun _ => .inl (some (.int (rget K 7 ((x1 + 3) + x2))))) ∧ K' = K)
theorem b_V_argumentOf_0 {D : Nat} {o : cp_G → cp_O} {K' K : cp_K} {x1 : Int32} {x2 : Int32} (w : wp_V_argumentOf_0 D o K' K x1 x2) : JC (D + 6) m_V_argumentOf o K' 0 (fun G => [(0, .ref (cp_b G + 6)), (1, .int x1), (2, .int x2)]) (fun _ => []) K := by
  unfold wp_V_argumentOf_0 at w
  intro G H d n0 z0 hd
  show kV G H m_V_argumentOf d n0 z0 (o G) K' 0 [(0, .ref (cp_b G + 6)), (1, .int x1), (2, .int x2)] [] K
  refine kv_p (fun _ _ _ _ _ _ v => vv_aload_n (pc := 0) d_V_argumentOf_0 rfl v) ?_
  refine kw_gf (pc := 1) 7 d_V_argumentOf_1 fl_V_14 (Or.inl ⟨by decide, rfl⟩) rfl (by decide) ?_
  refine kv_p (fun _ _ _ _ _ _ v => vv_iload_n (pc := 4) d_V_argumentOf_4 rfl v) ?_
  refine kv_p (fun _ _ _ _ _ _ v => vv_iconst (pc := 5) (v := 3) d_V_argumentOf_5 rfl v) ?_
  refine kv_p (fun _ _ _ _ _ _ v => vv_iadd (pc := 6) d_V_argumentOf_6 v) ?_
  refine kv_p (fun _ _ _ _ _ _ v => vv_iload_n (pc := 7) d_V_argumentOf_7 rfl v) ?_
  refine kv_p (fun _ _ _ _ _ _ v => vv_iadd (pc := 8) d_V_argumentOf_8 v) ?_
  refine kw_cr (pc := 9) (As := [.int ((x1 + 3) + x2)]) (As0 := (fun G => [.ref (cp_b G + 7), .int ((x1 + 3) + x2)])) d_V_argumentOf_9 (K_get (by decide)) rfl k_R_get ml_V_37 (by decide) (by omega) (Nat.le_of_ble_eq_true rfl) ?_
  obtain ⟨rfl, rfl⟩ := w
  exact kv_e (fun _ _ => vv_iret (pc := 12) d_V_argumentOf_12 rfl)
theorem c_V_argumentOf {D : Nat} {o : cp_G → Option Value} {K' K : cp_K} {x1 : Int32} {x2 : Int32} (w : wp_V_argumentOf_0 D (fun G => .inl (o G)) K' K x1 x2) : KC (D + 6) m_V_argumentOf (fun G => [.ref (cp_b G + 6), .int x1, .int x2]) K o K' := KC.of2 rfl (fun G => by exact ⟨Nat.le_of_ble_eq_true rfl, rfl⟩) (b_V_argumentOf_0 w)
def wp_V_makeSimple_0 (D : Nat) (o : cp_G → cp_O) (K' K : cp_K) (x1 : Int32) (x2 : Int32) : Prop := rsz K 7 < k_lim 7 ∧ rsz (kpush K 7 x1) 7 < k_lim 7 ∧ rsz (kpush (kpush K 7 x1) 7 x2) 7 < k_lim 7 ∧ (o = (fun _ => .inl (some (.int (nI (rsz K 7))))) ∧ K' = (kpush (kpush (kpush K 7 x1) 7 x2) 7 0))
theorem b_V_makeSimple_0 {D : Nat} {o : cp_G → cp_O} {K' K : cp_K} {x1 : Int32} {x2 : Int32} (w : wp_V_makeSimple_0 D o K' K x1 x2) : JC (D + 6) m_V_makeSimple o K' 0 (fun G => [(0, .ref (cp_b G + 6)), (1, .int x1), (2, .int x2)]) (fun _ => []) K := by
  unfold wp_V_makeSimple_0 at w
  intro G H d n0 z0 hd
  show kV G H m_V_makeSimple d n0 z0 (o G) K' 0 [(0, .ref (cp_b G + 6)), (1, .int x1), (2, .int x2)] [] K
  refine kv_p (fun _ _ _ _ _ _ v => vv_aload_n (pc := 0) d_V_makeSimple_0 rfl v) ?_
  refine kw_gf (pc := 1) 7 d_V_makeSimple_1 fl_V_14 (Or.inl ⟨by decide, rfl⟩) rfl (by decide) ?_
  refine kw_cr (pc := 4) (As := []) (As0 := (fun G => [.ref (cp_b G + 7)])) d_V_makeSimple_4 (K_size (by decide)) rfl k_R_size ml_V_41 (by decide) (by omega) (Nat.le_of_ble_eq_true rfl) ?_
  refine kv_p (fun _ _ _ _ _ _ v => vv_istore_n (pc := 7) d_V_makeSimple_7 (Nat.le_of_ble_eq_true rfl) v) ?_
  refine kv_p (fun _ _ _ _ _ _ v => vv_aload_n (pc := 8) d_V_makeSimple_8 rfl v) ?_
  refine kw_gf (pc := 9) 7 d_V_makeSimple_9 fl_V_14 (Or.inl ⟨by decide, rfl⟩) rfl (by decide) ?_
  refine kv_p (fun _ _ _ _ _ _ v => vv_iload_n (pc := 12) d_V_makeSimple_12 rfl v) ?_
  obtain ⟨b1, w⟩ := w
  refine kw_cr (pc := 13) (As := [.int x1]) (As0 := (fun G => [.ref (cp_b G + 7), .int x1])) d_V_makeSimple_13 (K_push (by decide) b1) rfl k_R_push ml_V_45 (by decide) (by omega) (Nat.le_of_ble_eq_true rfl) ?_
  refine kv_p (fun _ _ _ _ _ _ v => vv_aload_n (pc := 16) d_V_makeSimple_16 rfl v) ?_
  refine kw_gf (pc := 17) 7 d_V_makeSimple_17 fl_V_14 (Or.inl ⟨by decide, rfl⟩) rfl (by decide) ?_
  refine kv_p (fun _ _ _ _ _ _ v => vv_iload_n (pc := 20) d_V_makeSimple_20 rfl v) ?_
  obtain ⟨b2, w⟩ := w
  refine kw_cr (pc := 21) (As := [.int x2]) (As0 := (fun G => [.ref (cp_b G + 7), .int x2])) d_V_makeSimple_21 (K_push (by decide) b2) rfl k_R_push ml_V_45 (by decide) (by omega) (Nat.le_of_ble_eq_true rfl) ?_
  refine kv_p (fun _ _ _ _ _ _ v => vv_aload_n (pc := 24) d_V_makeSimple_24 rfl v) ?_
  refine kw_gf (pc := 25) 7 d_V_makeSimple_25 fl_V_14 (Or.inl ⟨by decide, rfl⟩) rfl (by decide) ?_
  refine kv_p (fun _ _ _ _ _ _ v => vv_iconst (pc := 28) (v := 0) d_V_makeSimple_28 rfl v) ?_
  obtain ⟨b3, w⟩ := w
  refine kw_cr (pc := 29) (As := [.int 0]) (As0 := (fun G => [.ref (cp_b G + 7), .int 0])) d_V_makeSimple_29 (K_push (by decide) b3) rfl k_R_push ml_V_45 (by decide) (by omega) (Nat.le_of_ble_eq_true rfl) ?_
  refine kv_p (fun _ _ _ _ _ _ v => vv_iload_n (pc := 32) d_V_makeSimple_32 rfl v) ?_
  obtain ⟨rfl, rfl⟩ := w
  exact kv_e (fun _ _ => vv_iret (pc := 33) d_V_makeSimple_33 rfl)
theorem c_V_makeSimple {D : Nat} {o : cp_G → Option Value} {K' K : cp_K} {x1 : Int32} {x2 : Int32} (w : wp_V_makeSimple_0 D (fun G => .inl (o G)) K' K x1 x2) : KC (D + 6) m_V_makeSimple (fun G => [.ref (cp_b G + 6), .int x1, .int x2]) K o K' := KC.of2 rfl (fun G => by exact ⟨Nat.le_of_ble_eq_true rfl, rfl⟩) (b_V_makeSimple_0 w)
def wp_V_lookThrough_0 (D : Nat) (o : cp_G → cp_O) (K' K : cp_K) (x1 : Int32) : Prop := JC (D + 6) m_V_lookThrough o K' 4 (fun G => [(0, .ref (cp_b G + 6)), (1, .int x1), (2, .int x1), (3, .int 0)]) (fun _ => []) K
theorem b_V_lookThrough_0 {D : Nat} {o : cp_G → cp_O} {K' K : cp_K} {x1 : Int32} (w : wp_V_lookThrough_0 D o K' K x1) : JC (D + 6) m_V_lookThrough o K' 0 (fun G => [(0, .ref (cp_b G + 6)), (1, .int x1)]) (fun _ => []) K := by
  unfold wp_V_lookThrough_0 at w
  intro G H d n0 z0 hd
  show kV G H m_V_lookThrough d n0 z0 (o G) K' 0 [(0, .ref (cp_b G + 6)), (1, .int x1)] [] K
  refine kv_p (fun _ _ _ _ _ _ v => vv_iload_n (pc := 0) d_V_lookThrough_0 rfl v) ?_
  refine kv_p (fun _ _ _ _ _ _ v => vv_istore_n (pc := 1) d_V_lookThrough_1 (Nat.le_of_ble_eq_true rfl) v) ?_
  refine kv_p (fun _ _ _ _ _ _ v => vv_iconst (pc := 2) (v := 0) d_V_lookThrough_2 rfl v) ?_
  refine kv_p (fun _ _ _ _ _ _ v => vv_istore_n (pc := 3) d_V_lookThrough_3 (Nat.le_of_ble_eq_true rfl) v) ?_
  exact kw_sub [2, 3, 1, 0] rfl (w G H d n0 z0 hd)
theorem c_V_lookThrough {D : Nat} {o : cp_G → Option Value} {K' K : cp_K} {x1 : Int32} (w : wp_V_lookThrough_0 D (fun G => .inl (o G)) K' K x1) : KC (D + 6) m_V_lookThrough (fun G => [.ref (cp_b G + 6), .int x1]) K o K' := KC.of2 rfl (fun G => by exact ⟨Nat.le_of_ble_eq_true rfl, rfl⟩) (b_V_lookThrough_0 w)
def wp_V_lookThrough_4 (D : Nat) (o : cp_G → cp_O) (K' K : cp_K) (x1 : Int32) (x2 : Int32) (x3 : Int32) : Prop := (((nI (rsz K 7)) ≤ (x3 : Int32) → (o = (fun _ => .inl (some (.int x2))) ∧ K' = K)) ∧ (¬ (nI (rsz K 7)) ≤ (x3 : Int32) → ((¬ ((rget K 7 x2) : Int32) = 4 → (o = (fun _ => .inl (some (.int x2))) ∧ K' = K)) ∧ (((rget K 7 x2) : Int32) = 4 → ((((rget K 7 (x2 + 1)) : Int32) = (-1) → (o = (fun _ => .inl (some (.int x2))) ∧ K' = K)) ∧ (¬ ((rget K 7 (x2 + 1)) : Int32) = (-1) → JC (D + 6) m_V_lookThrough o K' 4 (fun G => [(0, .ref (cp_b G + 6)), (1, .int x1), (2, .int (rget K 7 (x2 + 1))), (3, .int (x3 + 1))]) (fun _ => []) K))))))
theorem b_V_lookThrough_4 {D : Nat} {o : cp_G → cp_O} {K' K : cp_K} {x1 : Int32} {x2 : Int32} {x3 : Int32} (w : wp_V_lookThrough_4 D o K' K x1 x2 x3) : JC (D + 6) m_V_lookThrough o K' 4 (fun G => [(0, .ref (cp_b G + 6)), (1, .int x1), (2, .int x2), (3, .int x3)]) (fun _ => []) K := by
  unfold wp_V_lookThrough_4 at w
  intro G H d n0 z0 hd
  show kV G H m_V_lookThrough d n0 z0 (o G) K' 4 [(0, .ref (cp_b G + 6)), (1, .int x1), (2, .int x2), (3, .int x3)] [] K
  refine kv_p (fun _ _ _ _ _ _ v => vv_iload_n (pc := 4) d_V_lookThrough_4 rfl v) ?_
  refine kv_p (fun _ _ _ _ _ _ v => vv_aload_n (pc := 5) d_V_lookThrough_5 rfl v) ?_
  refine kw_gf (pc := 6) 7 d_V_lookThrough_6 fl_V_14 (Or.inl ⟨by decide, rfl⟩) rfl (by decide) ?_
  refine kw_cr (pc := 9) (As := []) (As0 := (fun G => [.ref (cp_b G + 7)])) d_V_lookThrough_9 (K_size (by decide)) rfl k_R_size ml_V_41 (by decide) (by omega) (Nat.le_of_ble_eq_true rfl) ?_
  by_cases hc : (nI (rsz K 7)) ≤ (x3 : Int32)
  · replace w := w.1 hc
    refine kv_p (fun _ _ _ _ _ _ v => vv_icmp_ge (pc := 12) (tgt := 58) d_V_lookThrough_12 rfl (fun _ => v) (fun hn => absurd hc hn)) ?_
    refine kv_p (fun _ _ _ _ _ _ v => vv_iload_n (pc := 58) d_V_lookThrough_58 rfl v) ?_
    obtain ⟨rfl, rfl⟩ := w
    exact kv_e (fun _ _ => vv_iret (pc := 59) d_V_lookThrough_59 rfl)
  · replace w := w.2 hc
    refine kv_p (fun _ _ _ _ _ _ v => vv_icmp_ge (pc := 12) (tgt := 58) d_V_lookThrough_12 rfl (fun hn => absurd hn hc) (fun _ => v)) ?_
    refine kv_p (fun _ _ _ _ _ _ v => vv_aload_n (pc := 15) d_V_lookThrough_15 rfl v) ?_
    refine kw_gf (pc := 16) 7 d_V_lookThrough_16 fl_V_14 (Or.inl ⟨by decide, rfl⟩) rfl (by decide) ?_
    refine kv_p (fun _ _ _ _ _ _ v => vv_iload_n (pc := 19) d_V_lookThrough_19 rfl v) ?_
    refine kw_cr (pc := 20) (As := [.int x2]) (As0 := (fun G => [.ref (cp_b G + 7), .int x2])) d_V_lookThrough_20 (K_get (by decide)) rfl k_R_get ml_V_37 (by decide) (by omega) (Nat.le_of_ble_eq_true rfl) ?_
    refine kv_p (fun _ _ _ _ _ _ v => vv_iconst (pc := 23) (v := 4) d_V_lookThrough_23 rfl v) ?_
    by_cases hc : ((rget K 7 x2) : Int32) = 4
    · replace w := w.2 hc
      refine kv_p (fun _ _ _ _ _ _ v => vv_icmp_ne (pc := 24) (tgt := 58) d_V_lookThrough_24 rfl (fun hn => absurd hc hn) (fun _ => v)) ?_
      refine kv_p (fun _ _ _ _ _ _ v => vv_aload_n (pc := 27) d_V_lookThrough_27 rfl v) ?_
      refine kw_gf (pc := 28) 7 d_V_lookThrough_28 fl_V_14 (Or.inl ⟨by decide, rfl⟩) rfl (by decide) ?_
      refine kv_p (fun _ _ _ _ _ _ v => vv_iload_n (pc := 31) d_V_lookThrough_31 rfl v) ?_
      refine kv_p (fun _ _ _ _ _ _ v => vv_iconst (pc := 32) (v := 1) d_V_lookThrough_32 rfl v) ?_
      refine kv_p (fun _ _ _ _ _ _ v => vv_iadd (pc := 33) d_V_lookThrough_33 v) ?_
      refine kw_cr (pc := 34) (As := [.int (x2 + 1)]) (As0 := (fun G => [.ref (cp_b G + 7), .int (x2 + 1)])) d_V_lookThrough_34 (K_get (by decide)) rfl k_R_get ml_V_37 (by decide) (by omega) (Nat.le_of_ble_eq_true rfl) ?_
      refine kv_p (fun _ _ _ _ _ _ v => vv_iconst (pc := 37) (v := (-1)) d_V_lookThrough_37 rfl v) ?_
      by_cases hc : ((rget K 7 (x2 + 1)) : Int32) = (-1)
      · replace w := w.1 hc
        refine kv_p (fun _ _ _ _ _ _ v => vv_icmp_eq (pc := 38) (tgt := 58) d_V_lookThrough_38 rfl (fun _ => v) (fun hn => absurd hc hn)) ?_
        refine kv_p (fun _ _ _ _ _ _ v => vv_iload_n (pc := 58) d_V_lookThrough_58 rfl v) ?_
        obtain ⟨rfl, rfl⟩ := w
        exact kv_e (fun _ _ => vv_iret (pc := 59) d_V_lookThrough_59 rfl)
      · replace w := w.2 hc
        refine kv_p (fun _ _ _ _ _ _ v => vv_icmp_eq (pc := 38) (tgt := 58) d_V_lookThrough_38 rfl (fun hn => absurd hn hc) (fun _ => v)) ?_
        refine kv_p (fun _ _ _ _ _ _ v => vv_aload_n (pc := 41) d_V_lookThrough_41 rfl v) ?_
        refine kw_gf (pc := 42) 7 d_V_lookThrough_42 fl_V_14 (Or.inl ⟨by decide, rfl⟩) rfl (by decide) ?_
        refine kv_p (fun _ _ _ _ _ _ v => vv_iload_n (pc := 45) d_V_lookThrough_45 rfl v) ?_
        refine kv_p (fun _ _ _ _ _ _ v => vv_iconst (pc := 46) (v := 1) d_V_lookThrough_46 rfl v) ?_
        refine kv_p (fun _ _ _ _ _ _ v => vv_iadd (pc := 47) d_V_lookThrough_47 v) ?_
        refine kw_cr (pc := 48) (As := [.int (x2 + 1)]) (As0 := (fun G => [.ref (cp_b G + 7), .int (x2 + 1)])) d_V_lookThrough_48 (K_get (by decide)) rfl k_R_get ml_V_37 (by decide) (by omega) (Nat.le_of_ble_eq_true rfl) ?_
        refine kv_p (fun _ _ _ _ _ _ v => vv_istore_n (pc := 51) d_V_lookThrough_51 (Nat.le_of_ble_eq_true rfl) v) ?_
        refine kv_p (fun _ _ _ _ _ _ v => vv_iinc (pc := 52) (v := (x3 + 1)) d_V_lookThrough_52 rfl rfl (Nat.le_of_ble_eq_true rfl) v) ?_
        refine kv_p (fun _ _ _ _ _ _ v => vv_goto (pc := 55) (tgt := 4) d_V_lookThrough_55 rfl v) ?_
        exact kw_sub [2, 3, 1, 0] rfl (w G H d n0 z0 hd)
    · replace w := w.1 hc
      refine kv_p (fun _ _ _ _ _ _ v => vv_icmp_ne (pc := 24) (tgt := 58) d_V_lookThrough_24 rfl (fun _ => v) (fun hn => absurd hn hc)) ?_
      refine kv_p (fun _ _ _ _ _ _ v => vv_iload_n (pc := 58) d_V_lookThrough_58 rfl v) ?_
      obtain ⟨rfl, rfl⟩ := w
      exact kv_e (fun _ _ => vv_iret (pc := 59) d_V_lookThrough_59 rfl)
def wp_V_isOpenHole_0 (D : Nat) (o : cp_G → cp_O) (K' K : cp_K) (x1 : Int32) : Prop := ((¬ ((rget K 7 x1) : Int32) = 4 → (o = (fun _ => .inl (some (.int 0))) ∧ K' = K)) ∧ (((rget K 7 x1) : Int32) = 4 → (o = (fun _ => .inl (some (.int 1))) ∧ K' = K)))
theorem b_V_isOpenHole_0 {D : Nat} {o : cp_G → cp_O} {K' K : cp_K} {x1 : Int32} (w : wp_V_isOpenHole_0 D o K' K x1) : JC (D + 6) m_V_isOpenHole o K' 0 (fun G => [(0, .ref (cp_b G + 6)), (1, .int x1)]) (fun _ => []) K := by
  unfold wp_V_isOpenHole_0 at w
  intro G H d n0 z0 hd
  show kV G H m_V_isOpenHole d n0 z0 (o G) K' 0 [(0, .ref (cp_b G + 6)), (1, .int x1)] [] K
  refine kv_p (fun _ _ _ _ _ _ v => vv_aload_n (pc := 0) d_V_isOpenHole_0 rfl v) ?_
  refine kw_gf (pc := 1) 7 d_V_isOpenHole_1 fl_V_14 (Or.inl ⟨by decide, rfl⟩) rfl (by decide) ?_
  refine kv_p (fun _ _ _ _ _ _ v => vv_iload_n (pc := 4) d_V_isOpenHole_4 rfl v) ?_
  refine kw_cr (pc := 5) (As := [.int x1]) (As0 := (fun G => [.ref (cp_b G + 7), .int x1])) d_V_isOpenHole_5 (K_get (by decide)) rfl k_R_get ml_V_37 (by decide) (by omega) (Nat.le_of_ble_eq_true rfl) ?_
  refine kv_p (fun _ _ _ _ _ _ v => vv_iconst (pc := 8) (v := 4) d_V_isOpenHole_8 rfl v) ?_
  by_cases hc : ((rget K 7 x1) : Int32) = 4
  · replace w := w.2 hc
    refine kv_p (fun _ _ _ _ _ _ v => vv_icmp_ne (pc := 9) (tgt := 16) d_V_isOpenHole_9 rfl (fun hn => absurd hc hn) (fun _ => v)) ?_
    refine kv_p (fun _ _ _ _ _ _ v => vv_iconst (pc := 12) (v := 1) d_V_isOpenHole_12 rfl v) ?_
    refine kv_p (fun _ _ _ _ _ _ v => vv_goto (pc := 13) (tgt := 17) d_V_isOpenHole_13 rfl v) ?_
    obtain ⟨rfl, rfl⟩ := w
    exact kv_e (fun _ _ => vv_zret (pc := 17) d_V_isOpenHole_17 rfl rfl)
  · replace w := w.1 hc
    refine kv_p (fun _ _ _ _ _ _ v => vv_icmp_ne (pc := 9) (tgt := 16) d_V_isOpenHole_9 rfl (fun _ => v) (fun hn => absurd hn hc)) ?_
    refine kv_p (fun _ _ _ _ _ _ v => vv_iconst (pc := 16) (v := 0) d_V_isOpenHole_16 rfl v) ?_
    obtain ⟨rfl, rfl⟩ := w
    exact kv_e (fun _ _ => vv_zret (pc := 17) d_V_isOpenHole_17 rfl rfl)
theorem c_V_isOpenHole {D : Nat} {o : cp_G → Option Value} {K' K : cp_K} {x1 : Int32} (w : wp_V_isOpenHole_0 D (fun G => .inl (o G)) K' K x1) : KC (D + 6) m_V_isOpenHole (fun G => [.ref (cp_b G + 6), .int x1]) K o K' := KC.of2 rfl (fun G => by exact ⟨Nat.le_of_ble_eq_true rfl, rfl⟩) (b_V_isOpenHole_0 w)
def wp_V_haveSameHead_0 (D : Nat) (o : cp_G → cp_O) (K' K : cp_K) (x1 : Int32) (x2 : Int32) : Prop := ((¬ ((rget K 7 x1) : Int32) = (rget K 7 x2) → (o = (fun _ => .inl (some (.int 0))) ∧ K' = K)) ∧ (((rget K 7 x1) : Int32) = (rget K 7 x2) → ((¬ ((rget K 7 (x1 + 1)) : Int32) = (rget K 7 (x2 + 1)) → (o = (fun _ => .inl (some (.int 0))) ∧ K' = K)) ∧ (((rget K 7 (x1 + 1)) : Int32) = (rget K 7 (x2 + 1)) → ((¬ ((rget K 7 (x1 + 2)) : Int32) = (rget K 7 (x2 + 2)) → (o = (fun _ => .inl (some (.int 0))) ∧ K' = K)) ∧ (((rget K 7 (x1 + 2)) : Int32) = (rget K 7 (x2 + 2)) → (o = (fun _ => .inl (some (.int 1))) ∧ K' = K)))))))
theorem b_V_haveSameHead_0 {D : Nat} {o : cp_G → cp_O} {K' K : cp_K} {x1 : Int32} {x2 : Int32} (w : wp_V_haveSameHead_0 D o K' K x1 x2) : JC (D + 6) m_V_haveSameHead o K' 0 (fun G => [(0, .ref (cp_b G + 6)), (1, .int x1), (2, .int x2)]) (fun _ => []) K := by
  unfold wp_V_haveSameHead_0 at w
  intro G H d n0 z0 hd
  show kV G H m_V_haveSameHead d n0 z0 (o G) K' 0 [(0, .ref (cp_b G + 6)), (1, .int x1), (2, .int x2)] [] K
  refine kv_p (fun _ _ _ _ _ _ v => vv_aload_n (pc := 0) d_V_haveSameHead_0 rfl v) ?_
  refine kw_gf (pc := 1) 7 d_V_haveSameHead_1 fl_V_14 (Or.inl ⟨by decide, rfl⟩) rfl (by decide) ?_
  refine kv_p (fun _ _ _ _ _ _ v => vv_iload_n (pc := 4) d_V_haveSameHead_4 rfl v) ?_
  refine kw_cr (pc := 5) (As := [.int x1]) (As0 := (fun G => [.ref (cp_b G + 7), .int x1])) d_V_haveSameHead_5 (K_get (by decide)) rfl k_R_get ml_V_37 (by decide) (by omega) (Nat.le_of_ble_eq_true rfl) ?_
  refine kv_p (fun _ _ _ _ _ _ v => vv_aload_n (pc := 8) d_V_haveSameHead_8 rfl v) ?_
  refine kw_gf (pc := 9) 7 d_V_haveSameHead_9 fl_V_14 (Or.inl ⟨by decide, rfl⟩) rfl (by decide) ?_
  refine kv_p (fun _ _ _ _ _ _ v => vv_iload_n (pc := 12) d_V_haveSameHead_12 rfl v) ?_
  refine kw_cr (pc := 13) (As := [.int x2]) (As0 := (fun G => [.ref (cp_b G + 7), .int x2])) d_V_haveSameHead_13 (K_get (by decide)) rfl k_R_get ml_V_37 (by decide) (by omega) (Nat.le_of_ble_eq_true rfl) ?_
  by_cases hc : ((rget K 7 x1) : Int32) = (rget K 7 x2)
  · replace w := w.2 hc
    refine kv_p (fun _ _ _ _ _ _ v => vv_icmp_ne (pc := 16) (tgt := 69) d_V_haveSameHead_16 rfl (fun hn => absurd hc hn) (fun _ => v)) ?_
    refine kv_p (fun _ _ _ _ _ _ v => vv_aload_n (pc := 19) d_V_haveSameHead_19 rfl v) ?_
    refine kw_gf (pc := 20) 7 d_V_haveSameHead_20 fl_V_14 (Or.inl ⟨by decide, rfl⟩) rfl (by decide) ?_
    refine kv_p (fun _ _ _ _ _ _ v => vv_iload_n (pc := 23) d_V_haveSameHead_23 rfl v) ?_
    refine kv_p (fun _ _ _ _ _ _ v => vv_iconst (pc := 24) (v := 1) d_V_haveSameHead_24 rfl v) ?_
    refine kv_p (fun _ _ _ _ _ _ v => vv_iadd (pc := 25) d_V_haveSameHead_25 v) ?_
    refine kw_cr (pc := 26) (As := [.int (x1 + 1)]) (As0 := (fun G => [.ref (cp_b G + 7), .int (x1 + 1)])) d_V_haveSameHead_26 (K_get (by decide)) rfl k_R_get ml_V_37 (by decide) (by omega) (Nat.le_of_ble_eq_true rfl) ?_
    refine kv_p (fun _ _ _ _ _ _ v => vv_aload_n (pc := 29) d_V_haveSameHead_29 rfl v) ?_
    refine kw_gf (pc := 30) 7 d_V_haveSameHead_30 fl_V_14 (Or.inl ⟨by decide, rfl⟩) rfl (by decide) ?_
    refine kv_p (fun _ _ _ _ _ _ v => vv_iload_n (pc := 33) d_V_haveSameHead_33 rfl v) ?_
    refine kv_p (fun _ _ _ _ _ _ v => vv_iconst (pc := 34) (v := 1) d_V_haveSameHead_34 rfl v) ?_
    refine kv_p (fun _ _ _ _ _ _ v => vv_iadd (pc := 35) d_V_haveSameHead_35 v) ?_
    refine kw_cr (pc := 36) (As := [.int (x2 + 1)]) (As0 := (fun G => [.ref (cp_b G + 7), .int (x2 + 1)])) d_V_haveSameHead_36 (K_get (by decide)) rfl k_R_get ml_V_37 (by decide) (by omega) (Nat.le_of_ble_eq_true rfl) ?_
    by_cases hc : ((rget K 7 (x1 + 1)) : Int32) = (rget K 7 (x2 + 1))
    · replace w := w.2 hc
      refine kv_p (fun _ _ _ _ _ _ v => vv_icmp_ne (pc := 39) (tgt := 69) d_V_haveSameHead_39 rfl (fun hn => absurd hc hn) (fun _ => v)) ?_
      refine kv_p (fun _ _ _ _ _ _ v => vv_aload_n (pc := 42) d_V_haveSameHead_42 rfl v) ?_
      refine kw_gf (pc := 43) 7 d_V_haveSameHead_43 fl_V_14 (Or.inl ⟨by decide, rfl⟩) rfl (by decide) ?_
      refine kv_p (fun _ _ _ _ _ _ v => vv_iload_n (pc := 46) d_V_haveSameHead_46 rfl v) ?_
      refine kv_p (fun _ _ _ _ _ _ v => vv_iconst (pc := 47) (v := 2) d_V_haveSameHead_47 rfl v) ?_
      refine kv_p (fun _ _ _ _ _ _ v => vv_iadd (pc := 48) d_V_haveSameHead_48 v) ?_
      refine kw_cr (pc := 49) (As := [.int (x1 + 2)]) (As0 := (fun G => [.ref (cp_b G + 7), .int (x1 + 2)])) d_V_haveSameHead_49 (K_get (by decide)) rfl k_R_get ml_V_37 (by decide) (by omega) (Nat.le_of_ble_eq_true rfl) ?_
      refine kv_p (fun _ _ _ _ _ _ v => vv_aload_n (pc := 52) d_V_haveSameHead_52 rfl v) ?_
      refine kw_gf (pc := 53) 7 d_V_haveSameHead_53 fl_V_14 (Or.inl ⟨by decide, rfl⟩) rfl (by decide) ?_
      refine kv_p (fun _ _ _ _ _ _ v => vv_iload_n (pc := 56) d_V_haveSameHead_56 rfl v) ?_
      refine kv_p (fun _ _ _ _ _ _ v => vv_iconst (pc := 57) (v := 2) d_V_haveSameHead_57 rfl v) ?_
      refine kv_p (fun _ _ _ _ _ _ v => vv_iadd (pc := 58) d_V_haveSameHead_58 v) ?_
      refine kw_cr (pc := 59) (As := [.int (x2 + 2)]) (As0 := (fun G => [.ref (cp_b G + 7), .int (x2 + 2)])) d_V_haveSameHead_59 (K_get (by decide)) rfl k_R_get ml_V_37 (by decide) (by omega) (Nat.le_of_ble_eq_true rfl) ?_
      by_cases hc : ((rget K 7 (x1 + 2)) : Int32) = (rget K 7 (x2 + 2))
      · replace w := w.2 hc
        refine kv_p (fun _ _ _ _ _ _ v => vv_icmp_ne (pc := 62) (tgt := 69) d_V_haveSameHead_62 rfl (fun hn => absurd hc hn) (fun _ => v)) ?_
        refine kv_p (fun _ _ _ _ _ _ v => vv_iconst (pc := 65) (v := 1) d_V_haveSameHead_65 rfl v) ?_
        refine kv_p (fun _ _ _ _ _ _ v => vv_goto (pc := 66) (tgt := 70) d_V_haveSameHead_66 rfl v) ?_
        obtain ⟨rfl, rfl⟩ := w
        exact kv_e (fun _ _ => vv_zret (pc := 70) d_V_haveSameHead_70 rfl rfl)
      · replace w := w.1 hc
        refine kv_p (fun _ _ _ _ _ _ v => vv_icmp_ne (pc := 62) (tgt := 69) d_V_haveSameHead_62 rfl (fun _ => v) (fun hn => absurd hn hc)) ?_
        refine kv_p (fun _ _ _ _ _ _ v => vv_iconst (pc := 69) (v := 0) d_V_haveSameHead_69 rfl v) ?_
        obtain ⟨rfl, rfl⟩ := w
        exact kv_e (fun _ _ => vv_zret (pc := 70) d_V_haveSameHead_70 rfl rfl)
    · replace w := w.1 hc
      refine kv_p (fun _ _ _ _ _ _ v => vv_icmp_ne (pc := 39) (tgt := 69) d_V_haveSameHead_39 rfl (fun _ => v) (fun hn => absurd hn hc)) ?_
      refine kv_p (fun _ _ _ _ _ _ v => vv_iconst (pc := 69) (v := 0) d_V_haveSameHead_69 rfl v) ?_
      obtain ⟨rfl, rfl⟩ := w
      exact kv_e (fun _ _ => vv_zret (pc := 70) d_V_haveSameHead_70 rfl rfl)
  · replace w := w.1 hc
    refine kv_p (fun _ _ _ _ _ _ v => vv_icmp_ne (pc := 16) (tgt := 69) d_V_haveSameHead_16 rfl (fun _ => v) (fun hn => absurd hn hc)) ?_
    refine kv_p (fun _ _ _ _ _ _ v => vv_iconst (pc := 69) (v := 0) d_V_haveSameHead_69 rfl v) ?_
    obtain ⟨rfl, rfl⟩ := w
    exact kv_e (fun _ _ => vv_zret (pc := 70) d_V_haveSameHead_70 rfl rfl)
theorem c_V_haveSameHead {D : Nat} {o : cp_G → Option Value} {K' K : cp_K} {x1 : Int32} {x2 : Int32} (w : wp_V_haveSameHead_0 D (fun G => .inl (o G)) K' K x1 x2) : KC (D + 6) m_V_haveSameHead (fun G => [.ref (cp_b G + 6), .int x1, .int x2]) K o K' := KC.of2 rfl (fun G => by exact ⟨Nat.le_of_ble_eq_true rfl, rfl⟩) (b_V_haveSameHead_0 w)
def wp_V_startPairs_0 (D : Nat) (o : cp_G → cp_O) (K' K : cp_K) (x1 : Int32) (x2 : Int32) : Prop := rsz (kcut K 11 0) 11 < k_lim 11 ∧ rsz (kpush (kcut K 11 0) 11 x1) 11 < k_lim 11 ∧ (o = (fun _ => .inl none) ∧ K' = (kpush (kpush (kcut K 11 0) 11 x1) 11 x2))
theorem b_V_startPairs_0 {D : Nat} {o : cp_G → cp_O} {K' K : cp_K} {x1 : Int32} {x2 : Int32} (w : wp_V_startPairs_0 D o K' K x1 x2) : JC (D + 6) m_V_startPairs o K' 0 (fun G => [(0, .ref (cp_b G + 6)), (1, .int x1), (2, .int x2)]) (fun _ => []) K := by
  unfold wp_V_startPairs_0 at w
  intro G H d n0 z0 hd
  show kV G H m_V_startPairs d n0 z0 (o G) K' 0 [(0, .ref (cp_b G + 6)), (1, .int x1), (2, .int x2)] [] K
  refine kv_p (fun _ _ _ _ _ _ v => vv_aload_n (pc := 0) d_V_startPairs_0 rfl v) ?_
  refine kw_gf (pc := 1) 11 d_V_startPairs_1 fl_V_23 (Or.inl ⟨by decide, rfl⟩) rfl (by decide) ?_
  refine kv_p (fun _ _ _ _ _ _ v => vv_iconst (pc := 4) (v := 0) d_V_startPairs_4 rfl v) ?_
  refine kw_cr (pc := 5) (As := [.int 0]) (As0 := (fun G => [.ref (cp_b G + 11), .int 0])) d_V_startPairs_5 (K_cut (by decide)) rfl k_R_cut ml_V_34 (by decide) (by omega) (Nat.le_of_ble_eq_true rfl) ?_
  refine kv_p (fun _ _ _ _ _ _ v => vv_aload_n (pc := 8) d_V_startPairs_8 rfl v) ?_
  refine kw_gf (pc := 9) 11 d_V_startPairs_9 fl_V_23 (Or.inl ⟨by decide, rfl⟩) rfl (by decide) ?_
  refine kv_p (fun _ _ _ _ _ _ v => vv_iload_n (pc := 12) d_V_startPairs_12 rfl v) ?_
  obtain ⟨b1, w⟩ := w
  refine kw_cr (pc := 13) (As := [.int x1]) (As0 := (fun G => [.ref (cp_b G + 11), .int x1])) d_V_startPairs_13 (K_push (by decide) b1) rfl k_R_push ml_V_45 (by decide) (by omega) (Nat.le_of_ble_eq_true rfl) ?_
  refine kv_p (fun _ _ _ _ _ _ v => vv_aload_n (pc := 16) d_V_startPairs_16 rfl v) ?_
  refine kw_gf (pc := 17) 11 d_V_startPairs_17 fl_V_23 (Or.inl ⟨by decide, rfl⟩) rfl (by decide) ?_
  refine kv_p (fun _ _ _ _ _ _ v => vv_iload_n (pc := 20) d_V_startPairs_20 rfl v) ?_
  obtain ⟨b2, w⟩ := w
  refine kw_cr (pc := 21) (As := [.int x2]) (As0 := (fun G => [.ref (cp_b G + 11), .int x2])) d_V_startPairs_21 (K_push (by decide) b2) rfl k_R_push ml_V_45 (by decide) (by omega) (Nat.le_of_ble_eq_true rfl) ?_
  obtain ⟨rfl, rfl⟩ := w
  exact kv_e (fun _ _ => vv_vret (pc := 24) d_V_startPairs_24 rfl)
theorem c_V_startPairs {D : Nat} {o : cp_G → Option Value} {K' K : cp_K} {x1 : Int32} {x2 : Int32} (w : wp_V_startPairs_0 D (fun G => .inl (o G)) K' K x1 x2) : KC (D + 6) m_V_startPairs (fun G => [.ref (cp_b G + 6), .int x1, .int x2]) K o K' := KC.of2 rfl (fun G => by exact ⟨Nat.le_of_ble_eq_true rfl, rfl⟩) (b_V_startPairs_0 w)
def wp_V_pushArgumentPairs_0 (D : Nat) (o : cp_G → cp_O) (K' K : cp_K) (x1 : Int32) (x2 : Int32) : Prop := JC (D + 6) m_V_pushArgumentPairs o K' 15 (fun G => [(0, .ref (cp_b G + 6)), (1, .int x1), (2, .int x2), (3, .int ((3 + (rget K 7 (x1 + 2))) - 1))]) (fun _ => []) K
theorem b_V_pushArgumentPairs_0 {D : Nat} {o : cp_G → cp_O} {K' K : cp_K} {x1 : Int32} {x2 : Int32} (w : wp_V_pushArgumentPairs_0 D o K' K x1 x2) : JC (D + 6) m_V_pushArgumentPairs o K' 0 (fun G => [(0, .ref (cp_b G + 6)), (1, .int x1), (2, .int x2)]) (fun _ => []) K := by
  unfold wp_V_pushArgumentPairs_0 at w
  intro G H d n0 z0 hd
  show kV G H m_V_pushArgumentPairs d n0 z0 (o G) K' 0 [(0, .ref (cp_b G + 6)), (1, .int x1), (2, .int x2)] [] K
  refine kv_p (fun _ _ _ _ _ _ v => vv_iconst (pc := 0) (v := 3) d_V_pushArgumentPairs_0 rfl v) ?_
  refine kv_p (fun _ _ _ _ _ _ v => vv_aload_n (pc := 1) d_V_pushArgumentPairs_1 rfl v) ?_
  refine kw_gf (pc := 2) 7 d_V_pushArgumentPairs_2 fl_V_14 (Or.inl ⟨by decide, rfl⟩) rfl (by decide) ?_
  refine kv_p (fun _ _ _ _ _ _ v => vv_iload_n (pc := 5) d_V_pushArgumentPairs_5 rfl v) ?_
  refine kv_p (fun _ _ _ _ _ _ v => vv_iconst (pc := 6) (v := 2) d_V_pushArgumentPairs_6 rfl v) ?_
  refine kv_p (fun _ _ _ _ _ _ v => vv_iadd (pc := 7) d_V_pushArgumentPairs_7 v) ?_
  refine kw_cr (pc := 8) (As := [.int (x1 + 2)]) (As0 := (fun G => [.ref (cp_b G + 7), .int (x1 + 2)])) d_V_pushArgumentPairs_8 (K_get (by decide)) rfl k_R_get ml_V_37 (by decide) (by omega) (Nat.le_of_ble_eq_true rfl) ?_
  refine kv_p (fun _ _ _ _ _ _ v => vv_iadd (pc := 11) d_V_pushArgumentPairs_11 v) ?_
  refine kv_p (fun _ _ _ _ _ _ v => vv_iconst (pc := 12) (v := 1) d_V_pushArgumentPairs_12 rfl v) ?_
  refine kv_p (fun _ _ _ _ _ _ v => vv_isub (pc := 13) d_V_pushArgumentPairs_13 v) ?_
  refine kv_p (fun _ _ _ _ _ _ v => vv_istore_n (pc := 14) d_V_pushArgumentPairs_14 (Nat.le_of_ble_eq_true rfl) v) ?_
  exact kw_sub [1, 2, 3, 0] rfl (w G H d n0 z0 hd)
theorem c_V_pushArgumentPairs {D : Nat} {o : cp_G → Option Value} {K' K : cp_K} {x1 : Int32} {x2 : Int32} (w : wp_V_pushArgumentPairs_0 D (fun G => .inl (o G)) K' K x1 x2) : KC (D + 6) m_V_pushArgumentPairs (fun G => [.ref (cp_b G + 6), .int x1, .int x2]) K o K' := KC.of2 rfl (fun G => by exact ⟨Nat.le_of_ble_eq_true rfl, rfl⟩) (b_V_pushArgumentPairs_0 w)
def wp_V_pushArgumentPairs_15 (D : Nat) (o : cp_G → cp_O) (K' K : cp_K) (x1 : Int32) (x2 : Int32) (x3 : Int32) : Prop := (((x3 : Int32) < 3 → (o = (fun _ => .inl none) ∧ K' = K)) ∧ (¬ (x3 : Int32) < 3 → rsz K 11 < k_lim 11 ∧ rsz (kpush K 11 (rget K 7 (x1 + x3))) 11 < k_lim 11 ∧ JC (D + 6) m_V_pushArgumentPairs o K' 15 (fun G => [(0, .ref (cp_b G + 6)), (1, .int x1), (2, .int x2), (3, .int (x3 + (-1)))]) (fun _ => []) (kpush (kpush K 11 (rget K 7 (x1 + x3))) 11 (rget (kpush K 11 (rget K 7 (x1 + x3))) 7 (x2 + x3)))))
theorem b_V_pushArgumentPairs_15 {D : Nat} {o : cp_G → cp_O} {K' K : cp_K} {x1 : Int32} {x2 : Int32} {x3 : Int32} (w : wp_V_pushArgumentPairs_15 D o K' K x1 x2 x3) : JC (D + 6) m_V_pushArgumentPairs o K' 15 (fun G => [(0, .ref (cp_b G + 6)), (1, .int x1), (2, .int x2), (3, .int x3)]) (fun _ => []) K := by
  unfold wp_V_pushArgumentPairs_15 at w
  intro G H d n0 z0 hd
  show kV G H m_V_pushArgumentPairs d n0 z0 (o G) K' 15 [(0, .ref (cp_b G + 6)), (1, .int x1), (2, .int x2), (3, .int x3)] [] K
  refine kv_p (fun _ _ _ _ _ _ v => vv_iload_n (pc := 15) d_V_pushArgumentPairs_15 rfl v) ?_
  refine kv_p (fun _ _ _ _ _ _ v => vv_iconst (pc := 16) (v := 3) d_V_pushArgumentPairs_16 rfl v) ?_
  by_cases hc : (x3 : Int32) < 3
  · replace w := w.1 hc
    refine kv_p (fun _ _ _ _ _ _ v => vv_icmp_lt (pc := 17) (tgt := 60) d_V_pushArgumentPairs_17 rfl (fun _ => v) (fun hn => absurd hc hn)) ?_
    obtain ⟨rfl, rfl⟩ := w
    exact kv_e (fun _ _ => vv_vret (pc := 60) d_V_pushArgumentPairs_60 rfl)
  · replace w := w.2 hc
    refine kv_p (fun _ _ _ _ _ _ v => vv_icmp_lt (pc := 17) (tgt := 60) d_V_pushArgumentPairs_17 rfl (fun hn => absurd hn hc) (fun _ => v)) ?_
    refine kv_p (fun _ _ _ _ _ _ v => vv_aload_n (pc := 20) d_V_pushArgumentPairs_20 rfl v) ?_
    refine kw_gf (pc := 21) 11 d_V_pushArgumentPairs_21 fl_V_23 (Or.inl ⟨by decide, rfl⟩) rfl (by decide) ?_
    refine kv_p (fun _ _ _ _ _ _ v => vv_aload_n (pc := 24) d_V_pushArgumentPairs_24 rfl v) ?_
    refine kw_gf (pc := 25) 7 d_V_pushArgumentPairs_25 fl_V_14 (Or.inl ⟨by decide, rfl⟩) rfl (by decide) ?_
    refine kv_p (fun _ _ _ _ _ _ v => vv_iload_n (pc := 28) d_V_pushArgumentPairs_28 rfl v) ?_
    refine kv_p (fun _ _ _ _ _ _ v => vv_iload_n (pc := 29) d_V_pushArgumentPairs_29 rfl v) ?_
    refine kv_p (fun _ _ _ _ _ _ v => vv_iadd (pc := 30) d_V_pushArgumentPairs_30 v) ?_
    refine kw_cr (pc := 31) (As := [.int (x1 + x3)]) (As0 := (fun G => [.ref (cp_b G + 7), .int (x1 + x3)])) d_V_pushArgumentPairs_31 (K_get (by decide)) rfl k_R_get ml_V_37 (by decide) (by omega) (Nat.le_of_ble_eq_true rfl) ?_
    obtain ⟨b1, w⟩ := w
    refine kw_cr (pc := 34) (As := [.int (rget K 7 (x1 + x3))]) (As0 := (fun G => [.ref (cp_b G + 11), .int (rget K 7 (x1 + x3))])) d_V_pushArgumentPairs_34 (K_push (by decide) b1) rfl k_R_push ml_V_45 (by decide) (by omega) (Nat.le_of_ble_eq_true rfl) ?_
    refine kv_p (fun _ _ _ _ _ _ v => vv_aload_n (pc := 37) d_V_pushArgumentPairs_37 rfl v) ?_
    refine kw_gf (pc := 38) 11 d_V_pushArgumentPairs_38 fl_V_23 (Or.inl ⟨by decide, rfl⟩) rfl (by decide) ?_
    refine kv_p (fun _ _ _ _ _ _ v => vv_aload_n (pc := 41) d_V_pushArgumentPairs_41 rfl v) ?_
    refine kw_gf (pc := 42) 7 d_V_pushArgumentPairs_42 fl_V_14 (Or.inl ⟨by decide, rfl⟩) rfl (by decide) ?_
    refine kv_p (fun _ _ _ _ _ _ v => vv_iload_n (pc := 45) d_V_pushArgumentPairs_45 rfl v) ?_
    refine kv_p (fun _ _ _ _ _ _ v => vv_iload_n (pc := 46) d_V_pushArgumentPairs_46 rfl v) ?_
    refine kv_p (fun _ _ _ _ _ _ v => vv_iadd (pc := 47) d_V_pushArgumentPairs_47 v) ?_
    refine kw_cr (pc := 48) (As := [.int (x2 + x3)]) (As0 := (fun G => [.ref (cp_b G + 7), .int (x2 + x3)])) d_V_pushArgumentPairs_48 (K_get (by decide)) rfl k_R_get ml_V_37 (by decide) (by omega) (Nat.le_of_ble_eq_true rfl) ?_
    obtain ⟨b2, w⟩ := w
    refine kw_cr (pc := 51) (As := [.int (rget (kpush K 11 (rget K 7 (x1 + x3))) 7 (x2 + x3))]) (As0 := (fun G => [.ref (cp_b G + 11), .int (rget (kpush K 11 (rget K 7 (x1 + x3))) 7 (x2 + x3))])) d_V_pushArgumentPairs_51 (K_push (by decide) b2) rfl k_R_push ml_V_45 (by decide) (by omega) (Nat.le_of_ble_eq_true rfl) ?_
    refine kv_p (fun _ _ _ _ _ _ v => vv_iinc (pc := 54) (v := (x3 + (-1))) d_V_pushArgumentPairs_54 rfl rfl (Nat.le_of_ble_eq_true rfl) v) ?_
    refine kv_p (fun _ _ _ _ _ _ v => vv_goto (pc := 57) (tgt := 15) d_V_pushArgumentPairs_57 rfl v) ?_
    exact kw_sub [1, 2, 3, 0] rfl (w G H d n0 z0 hd)
def wp_V_written_0 (D : Nat) (o : cp_G → cp_O) (K' K : cp_K) (x1 : Int32) : Prop := (((x1 : Int32) < 0 → (o = (fun _ => .inl (some (.int 32))) ∧ K' = K ∧ narrow .char (.int 32) = .int 32)) ∧ (¬ (x1 : Int32) < 0 → (((K.2.1 6 4) ≤ (x1 : Int32) → (o = (fun _ => .inl (some (.int 32))) ∧ K' = K ∧ narrow .char (.int 32) = .int 32)) ∧ (¬ (K.2.1 6 4) ≤ (x1 : Int32) → vp_in x1 101 ∧ (o = (fun _ => .inl (some (.int (K.2.1 13 (Int32.toNatClampNeg x1))))) ∧ K' = K ∧ narrow .char (.int (K.2.1 13 (Int32.toNatClampNeg x1))) = .int (K.2.1 13 (Int32.toNatClampNeg x1)))))))
theorem b_V_written_0 {D : Nat} {o : cp_G → cp_O} {K' K : cp_K} {x1 : Int32} (w : wp_V_written_0 D o K' K x1) : JC (D + 6) m_V_written o K' 0 (fun G => [(0, .ref (cp_b G + 6)), (1, .int x1)]) (fun _ => []) K := by
  unfold wp_V_written_0 at w
  intro G H d n0 z0 hd
  show kV G H m_V_written d n0 z0 (o G) K' 0 [(0, .ref (cp_b G + 6)), (1, .int x1)] [] K
  refine kv_p (fun _ _ _ _ _ _ v => vv_iload_n (pc := 0) d_V_written_0 rfl v) ?_
  by_cases hc : (x1 : Int32) < 0
  · replace w := w.1 hc
    refine kv_p (fun _ _ _ _ _ _ v => vv_if_lt (pc := 1) (tgt := 21) d_V_written_1 rfl (fun _ => v) (fun hn => absurd hc hn)) ?_
    refine kv_p (fun _ _ _ _ _ _ v => vv_bipush (pc := 21) (v := 32) d_V_written_21 rfl v) ?_
    obtain ⟨rfl, rfl, hx⟩ := w
    exact kv_e (fun _ _ => vv_zret (pc := 23) d_V_written_23 rfl hx)
  · replace w := w.2 hc
    refine kv_p (fun _ _ _ _ _ _ v => vv_if_lt (pc := 1) (tgt := 21) d_V_written_1 rfl (fun hn => absurd hn hc) (fun _ => v)) ?_
    refine kv_p (fun _ _ _ _ _ _ v => vv_iload_n (pc := 4) d_V_written_4 rfl v) ?_
    refine kv_p (fun _ _ _ _ _ _ v => vv_aload_n (pc := 5) d_V_written_5 rfl v) ?_
    refine kw_gi (pc := 6) d_V_written_6 fl_V_30 (Or.inl ⟨by decide, rfl⟩) rfl rfl ?_
    by_cases hc : (K.2.1 6 4) ≤ (x1 : Int32)
    · replace w := w.1 hc
      refine kv_p (fun _ _ _ _ _ _ v => vv_icmp_ge (pc := 9) (tgt := 21) d_V_written_9 rfl (fun _ => v) (fun hn => absurd hc hn)) ?_
      refine kv_p (fun _ _ _ _ _ _ v => vv_bipush (pc := 21) (v := 32) d_V_written_21 rfl v) ?_
      obtain ⟨rfl, rfl, hx⟩ := w
      exact kv_e (fun _ _ => vv_zret (pc := 23) d_V_written_23 rfl hx)
    · replace w := w.2 hc
      refine kv_p (fun _ _ _ _ _ _ v => vv_icmp_ge (pc := 9) (tgt := 21) d_V_written_9 rfl (fun hn => absurd hn hc) (fun _ => v)) ?_
      refine kv_p (fun _ _ _ _ _ _ v => vv_aload_n (pc := 12) d_V_written_12 rfl v) ?_
      refine kw_gf (pc := 13) 13 d_V_written_13 fl_V_26 (Or.inl ⟨by decide, rfl⟩) rfl (by decide) ?_
      refine kv_p (fun _ _ _ _ _ _ v => vv_iload_n (pc := 16) d_V_written_16 rfl v) ?_
      obtain ⟨b1, w⟩ := w
      refine kw_cl (pc := 17) d_V_written_17 (by decide) b1 ?_
      refine kv_p (fun _ _ _ _ _ _ v => vv_goto (pc := 18) (tgt := 23) d_V_written_18 rfl v) ?_
      obtain ⟨rfl, rfl, hx⟩ := w
      exact kv_e (fun _ _ => vv_zret (pc := 23) d_V_written_23 rfl hx)
theorem c_V_written {D : Nat} {o : cp_G → Option Value} {K' K : cp_K} {x1 : Int32} (w : wp_V_written_0 D (fun G => .inl (o G)) K' K x1) : KC (D + 6) m_V_written (fun G => [.ref (cp_b G + 6), .int x1]) K o K' := KC.of2 rfl (fun G => by exact ⟨Nat.le_of_ble_eq_true rfl, rfl⟩) (b_V_written_0 w)
def wp_V_put_0 (D : Nat) (o : cp_G → cp_O) (K' K : cp_K) (x1 : Int32) : Prop := (((nI 101) ≤ ((K.2.1 6 4) : Int32) → (o = (fun _ => .inl none) ∧ K' = K)) ∧ (¬ (nI 101) ≤ ((K.2.1 6 4) : Int32) → vp_in (K.2.1 6 4) 101 ∧ (o = (fun _ => .inl none) ∧ K' = (kI (kI K 13 (Int32.toNatClampNeg (K.2.1 6 4)) (vp_nar .char x1)) 6 4 (((kI K 13 (Int32.toNatClampNeg (K.2.1 6 4)) (vp_nar .char x1)).2.1 6 4) + 1)))))
theorem b_V_put_0 {D : Nat} {o : cp_G → cp_O} {K' K : cp_K} {x1 : Int32} (w : wp_V_put_0 D o K' K x1) : JC (D + 6) m_V_put o K' 0 (fun G => [(0, .ref (cp_b G + 6)), (1, .int x1)]) (fun _ => []) K := by
  unfold wp_V_put_0 at w
  intro G H d n0 z0 hd
  show kV G H m_V_put d n0 z0 (o G) K' 0 [(0, .ref (cp_b G + 6)), (1, .int x1)] [] K
  refine kv_p (fun _ _ _ _ _ _ v => vv_aload_n (pc := 0) d_V_put_0 rfl v) ?_
  refine kw_gi (pc := 1) d_V_put_1 fl_V_30 (Or.inl ⟨by decide, rfl⟩) rfl rfl ?_
  refine kv_p (fun _ _ _ _ _ _ v => vv_aload_n (pc := 4) d_V_put_4 rfl v) ?_
  refine kw_gf (pc := 5) 13 d_V_put_5 fl_V_26 (Or.inl ⟨by decide, rfl⟩) rfl (by decide) ?_
  refine kw_al (pc := 8) (len := 101) d_V_put_8 (by decide) ?_
  by_cases hc : (nI 101) ≤ ((K.2.1 6 4) : Int32)
  · replace w := w.1 hc
    refine kv_p (fun _ _ _ _ _ _ v => vv_icmp_ge (pc := 9) (tgt := 32) d_V_put_9 rfl (fun _ => v) (fun hn => absurd hc hn)) ?_
    obtain ⟨rfl, rfl⟩ := w
    exact kv_e (fun _ _ => vv_vret (pc := 32) d_V_put_32 rfl)
  · replace w := w.2 hc
    refine kv_p (fun _ _ _ _ _ _ v => vv_icmp_ge (pc := 9) (tgt := 32) d_V_put_9 rfl (fun hn => absurd hn hc) (fun _ => v)) ?_
    refine kv_p (fun _ _ _ _ _ _ v => vv_aload_n (pc := 12) d_V_put_12 rfl v) ?_
    refine kw_gf (pc := 13) 13 d_V_put_13 fl_V_26 (Or.inl ⟨by decide, rfl⟩) rfl (by decide) ?_
    refine kv_p (fun _ _ _ _ _ _ v => vv_aload_n (pc := 16) d_V_put_16 rfl v) ?_
    refine kw_gi (pc := 17) d_V_put_17 fl_V_30 (Or.inl ⟨by decide, rfl⟩) rfl rfl ?_
    refine kv_p (fun _ _ _ _ _ _ v => vv_iload_n (pc := 20) d_V_put_20 rfl v) ?_
    obtain ⟨b1, w⟩ := w
    refine kw_cs (pc := 21) (len := 101) d_V_put_21 (by decide) b1 ?_
    refine kv_p (fun _ _ _ _ _ _ v => vv_aload_n (pc := 22) d_V_put_22 rfl v) ?_
    refine kv_p (fun _ _ _ _ _ _ v => vv_dup (pc := 23) d_V_put_23 rfl v) ?_
    refine kw_gi (pc := 24) d_V_put_24 fl_V_30 (Or.inl ⟨by decide, rfl⟩) rfl rfl ?_
    refine kv_p (fun _ _ _ _ _ _ v => vv_iconst (pc := 27) (v := 1) d_V_put_27 rfl v) ?_
    refine kv_p (fun _ _ _ _ _ _ v => vv_iadd (pc := 28) d_V_put_28 v) ?_
    refine kw_pi (pc := 29) d_V_put_29 fl_V_30 (Or.inl ⟨by decide, rfl⟩) rfl rfl rfl rfl rfl ?_
    obtain ⟨rfl, rfl⟩ := w
    exact kv_e (fun _ _ => vv_vret (pc := 32) d_V_put_32 rfl)
theorem c_V_put {D : Nat} {o : cp_G → Option Value} {K' K : cp_K} {x1 : Int32} (w : wp_V_put_0 D (fun G => .inl (o G)) K' K x1) : KC (D + 6) m_V_put (fun G => [.ref (cp_b G + 6), .int x1]) K o K' := KC.of2 rfl (fun G => by exact ⟨Nat.le_of_ble_eq_true rfl, rfl⟩) (b_V_put_0 w)
def wp_N_init_0 (D : Nat) (o : cp_G → cp_O) (K' K : cp_K) (p0 : Nat) (x1 : Int32) (x2 : Int32) (x3 : Int32) : Prop := nd K p0 9 ∧ nd K p0 9 ∧ nd (kI K p0 0 x1) p0 9 ∧ nd (kI (kI K p0 0 x1) p0 1 x2) p0 9 ∧ nd (kI (kI (kI K p0 0 x1) p0 1 x2) p0 2 x3) p0 9 ∧ nd (kI (kI (kI (kI K p0 0 x1) p0 1 x2) p0 2 x3) p0 3 0) p0 9 ∧ nd (kP (kI (kI (kI (kI K p0 0 x1) p0 1 x2) p0 2 x3) p0 3 0) p0 4 0) p0 9 ∧ nd (kP (kP (kI (kI (kI (kI K p0 0 x1) p0 1 x2) p0 2 x3) p0 3 0) p0 4 0) p0 5 0) p0 9 ∧ (o = (fun _ => .inl none) ∧ K' = (kP (kP (kP (kI (kI (kI (kI K p0 0 x1) p0 1 x2) p0 2 x3) p0 3 0) p0 4 0) p0 5 0) p0 6 0))
theorem b_N_init_0 {D : Nat} {o : cp_G → cp_O} {K' K : cp_K} {p0 : Nat} {x1 : Int32} {x2 : Int32} {x3 : Int32} (w : wp_N_init_0 D o K' K p0 x1 x2 x3) : JC (D + 6) m_N_init o K' 0 (fun G => [(0, va_rf (kr G p0)), (1, .int x1), (2, .int x2), (3, .int x3)]) (fun _ => []) K := by
  unfold wp_N_init_0 at w
  intro G H d n0 z0 hd
  show kV G H m_N_init d n0 z0 (o G) K' 0 [(0, va_rf (kr G p0)), (1, .int x1), (2, .int x2), (3, .int x3)] [] K
  refine kv_p (fun _ _ _ _ _ _ v => vv_aload_nr (pc := 0) d_N_init_0 (cp_isr_rf _) rfl v) ?_
  obtain ⟨b1, w⟩ := w
  refine kw_obj (pc := 1) d_N_init_1 ol_N_1 b1 (by omega) (Nat.le_of_ble_eq_true rfl) ?_
  refine kv_p (fun _ _ _ _ _ _ v => vv_aload_nr (pc := 4) d_N_init_4 (cp_isr_rf _) rfl v) ?_
  refine kv_p (fun _ _ _ _ _ _ v => vv_iload_n (pc := 5) d_N_init_5 rfl v) ?_
  obtain ⟨b2, w⟩ := w
  refine kw_piF (pc := 6) d_N_init_6 fl_N_7 b2 rfl rfl rfl rfl rfl rfl rfl ?_
  refine kv_p (fun _ _ _ _ _ _ v => vv_aload_nr (pc := 9) d_N_init_9 (cp_isr_rf _) rfl v) ?_
  refine kv_p (fun _ _ _ _ _ _ v => vv_iload_n (pc := 10) d_N_init_10 rfl v) ?_
  obtain ⟨b3, w⟩ := w
  refine kw_piF (pc := 11) d_N_init_11 fl_N_13 b3 rfl rfl rfl rfl rfl rfl rfl ?_
  refine kv_p (fun _ _ _ _ _ _ v => vv_aload_nr (pc := 14) d_N_init_14 (cp_isr_rf _) rfl v) ?_
  refine kv_p (fun _ _ _ _ _ _ v => vv_iload_n (pc := 15) d_N_init_15 rfl v) ?_
  obtain ⟨b4, w⟩ := w
  refine kw_piF (pc := 16) d_N_init_16 fl_N_16 b4 rfl rfl rfl rfl rfl rfl rfl ?_
  refine kv_p (fun _ _ _ _ _ _ v => vv_aload_nr (pc := 19) d_N_init_19 (cp_isr_rf _) rfl v) ?_
  refine kv_p (fun _ _ _ _ _ _ v => vv_iconst (pc := 20) (v := 0) d_N_init_20 rfl v) ?_
  obtain ⟨b5, w⟩ := w
  refine kw_piN (pc := 21) d_N_init_21 fl_N_19 b5 rfl rfl rfl rfl rfl ?_
  refine kv_p (fun _ _ _ _ _ _ v => vv_aload_nr (pc := 24) d_N_init_24 (cp_isr_rf _) rfl v) ?_
  refine kw_null (pc := 25) d_N_init_25 ?_
  obtain ⟨b6, w⟩ := w
  refine kw_prN (pc := 26) (q := 0) d_N_init_26 fl_N_22 b6 rfl rfl rfl krf_9_4 ?_
  refine kv_p (fun _ _ _ _ _ _ v => vv_aload_nr (pc := 29) d_N_init_29 (cp_isr_rf _) rfl v) ?_
  refine kw_null (pc := 30) d_N_init_30 ?_
  obtain ⟨b7, w⟩ := w
  refine kw_prN (pc := 31) (q := 0) d_N_init_31 fl_N_26 b7 rfl rfl rfl krf_9_5 ?_
  refine kv_p (fun _ _ _ _ _ _ v => vv_aload_nr (pc := 34) d_N_init_34 (cp_isr_rf _) rfl v) ?_
  refine kw_null (pc := 35) d_N_init_35 ?_
  obtain ⟨b8, w⟩ := w
  refine kw_prN (pc := 36) (q := 0) d_N_init_36 fl_N_29 b8 rfl rfl rfl krf_9_6 ?_
  obtain ⟨rfl, rfl⟩ := w
  exact kv_e (fun _ _ => vv_vret (pc := 39) d_N_init_39 rfl)
theorem c_N_init {D : Nat} {o : cp_G → Option Value} {K' K : cp_K} {p0 : Nat} {x1 : Int32} {x2 : Int32} {x3 : Int32} (w : wp_N_init_0 D (fun G => .inl (o G)) K' K p0 x1 x2 x3) : KC (D + 6) m_N_init (fun G => [va_rf (kr G p0), .int x1, .int x2, .int x3]) K o K' := KC.of2 rfl (fun G => by cases kr G p0 <;> exact ⟨Nat.le_of_ble_eq_true rfl, rfl⟩) (b_N_init_0 w)
def wp_N_add_0 (D : Nat) (o : cp_G → cp_O) (K' K : cp_K) (p0 : Nat) (p1 : Nat) : Prop := nd K p0 9 ∧ ((¬ (K.2.2.1 p0 5) = (0 : Nat) → nd K p0 9 ∧ nd K (K.2.2.1 p0 5) 9 ∧ JC (D + 6) m_N_add o K' 23 (fun G => [(0, va_rf (kr G p0)), (1, va_rf (kr G p1))]) (fun _ => []) (kP K (K.2.2.1 p0 5) 6 p1)) ∧ ((K.2.2.1 p0 5) = (0 : Nat) → nd K p0 9 ∧ JC (D + 6) m_N_add o K' 23 (fun G => [(0, va_rf (kr G p0)), (1, va_rf (kr G p1))]) (fun _ => []) (kP K p0 4 p1)))
theorem b_N_add_0 {D : Nat} {o : cp_G → cp_O} {K' K : cp_K} {p0 : Nat} {p1 : Nat} (w : wp_N_add_0 D o K' K p0 p1) : JC (D + 6) m_N_add o K' 0 (fun G => [(0, va_rf (kr G p0)), (1, va_rf (kr G p1))]) (fun _ => []) K := by
  unfold wp_N_add_0 at w
  intro G H d n0 z0 hd
  show kV G H m_N_add d n0 z0 (o G) K' 0 [(0, va_rf (kr G p0)), (1, va_rf (kr G p1))] [] K
  refine kv_p (fun _ _ _ _ _ _ v => vv_aload_nr (pc := 0) d_N_add_0 (cp_isr_rf _) rfl v) ?_
  obtain ⟨b1, w⟩ := w
  refine kw_grN (pc := 1) d_N_add_1 fl_N_26 b1 rfl rfl ?_
  refine kw_ifnonnull (pc := 4) (tgt := 15) d_N_add_4 rfl (fun hc => ?_) (fun hc => ?_)
  · replace w := w.1 hc
    refine kv_p (fun _ _ _ _ _ _ v => vv_aload_nr (pc := 15) d_N_add_15 (cp_isr_rf _) rfl v) ?_
    obtain ⟨b2, w⟩ := w
    refine kw_grN (pc := 16) d_N_add_16 fl_N_26 b2 rfl rfl ?_
    refine kv_p (fun _ _ _ _ _ _ v => vv_aload_nr (pc := 19) d_N_add_19 (cp_isr_rf _) rfl v) ?_
    obtain ⟨b3, w⟩ := w
    refine kw_prN (pc := 20) (q := p1) d_N_add_20 fl_N_29 b3 rfl rfl rfl krf_9_6 ?_
    exact kw_sub [0, 1] rfl (w G H d n0 z0 hd)
  · replace w := w.2 hc
    refine kv_p (fun _ _ _ _ _ _ v => vv_aload_nr (pc := 7) d_N_add_7 (cp_isr_rf _) rfl v) ?_
    refine kv_p (fun _ _ _ _ _ _ v => vv_aload_nr (pc := 8) d_N_add_8 (cp_isr_rf _) rfl v) ?_
    obtain ⟨b4, w⟩ := w
    refine kw_prN (pc := 9) (q := p1) d_N_add_9 fl_N_22 b4 rfl rfl rfl krf_9_4 ?_
    refine kv_p (fun _ _ _ _ _ _ v => vv_goto (pc := 12) (tgt := 23) d_N_add_12 rfl v) ?_
    exact kw_sub [0, 1] rfl (w G H d n0 z0 hd)
theorem c_N_add {D : Nat} {o : cp_G → Option Value} {K' K : cp_K} {p0 : Nat} {p1 : Nat} (w : wp_N_add_0 D (fun G => .inl (o G)) K' K p0 p1) : KC (D + 6) m_N_add (fun G => [va_rf (kr G p0), va_rf (kr G p1)]) K o K' := KC.of2 rfl (fun G => by cases kr G p0 <;> cases kr G p1 <;> exact ⟨Nat.le_of_ble_eq_true rfl, rfl⟩) (b_N_add_0 w)
def wp_N_add_23 (D : Nat) (o : cp_G → cp_O) (K' K : cp_K) (p0 : Nat) (p1 : Nat) : Prop := nd K p0 9 ∧ nd (kP K p0 5 p1) p0 9 ∧ nd (kP K p0 5 p1) p0 9 ∧ (o = (fun _ => .inl none) ∧ K' = (kI (kP K p0 5 p1) p0 3 (((kP K p0 5 p1).2.1 p0 3) + 1)))
theorem b_N_add_23 {D : Nat} {o : cp_G → cp_O} {K' K : cp_K} {p0 : Nat} {p1 : Nat} (w : wp_N_add_23 D o K' K p0 p1) : JC (D + 6) m_N_add o K' 23 (fun G => [(0, va_rf (kr G p0)), (1, va_rf (kr G p1))]) (fun _ => []) K := by
  unfold wp_N_add_23 at w
  intro G H d n0 z0 hd
  show kV G H m_N_add d n0 z0 (o G) K' 23 [(0, va_rf (kr G p0)), (1, va_rf (kr G p1))] [] K
  refine kv_p (fun _ _ _ _ _ _ v => vv_aload_nr (pc := 23) d_N_add_23 (cp_isr_rf _) rfl v) ?_
  refine kv_p (fun _ _ _ _ _ _ v => vv_aload_nr (pc := 24) d_N_add_24 (cp_isr_rf _) rfl v) ?_
  obtain ⟨b1, w⟩ := w
  refine kw_prN (pc := 25) (q := p1) d_N_add_25 fl_N_26 b1 rfl rfl rfl krf_9_5 ?_
  refine kv_p (fun _ _ _ _ _ _ v => vv_aload_nr (pc := 28) d_N_add_28 (cp_isr_rf _) rfl v) ?_
  refine kv_p (fun _ _ _ _ _ _ v => vv_dup (pc := 29) d_N_add_29 (kr_cat _) v) ?_
  obtain ⟨b2, w⟩ := w
  refine kw_giN (pc := 30) d_N_add_30 fl_N_19 b2 rfl rfl ?_
  refine kv_p (fun _ _ _ _ _ _ v => vv_iconst (pc := 33) (v := 1) d_N_add_33 rfl v) ?_
  refine kv_p (fun _ _ _ _ _ _ v => vv_iadd (pc := 34) d_N_add_34 v) ?_
  obtain ⟨b3, w⟩ := w
  refine kw_piN (pc := 35) d_N_add_35 fl_N_19 b3 rfl rfl rfl rfl rfl ?_
  obtain ⟨rfl, rfl⟩ := w
  exact kv_e (fun _ _ => vv_vret (pc := 38) d_N_add_38 rfl)
def wp_N_countOf_0 (D : Nat) (o : cp_G → cp_O) (K' K : cp_K) (p0 : Nat) (x1 : Int32) : Prop := nd K p0 9 ∧ JC (D + 6) m_N_countOf o K' 7 (fun G => [(0, va_rf (kr G p0)), (1, .int x1), (2, .int 0), (3, va_rf (kr G (K.2.2.1 p0 4)))]) (fun _ => []) K
theorem b_N_countOf_0 {D : Nat} {o : cp_G → cp_O} {K' K : cp_K} {p0 : Nat} {x1 : Int32} (w : wp_N_countOf_0 D o K' K p0 x1) : JC (D + 6) m_N_countOf o K' 0 (fun G => [(0, va_rf (kr G p0)), (1, .int x1)]) (fun _ => []) K := by
  unfold wp_N_countOf_0 at w
  intro G H d n0 z0 hd
  show kV G H m_N_countOf d n0 z0 (o G) K' 0 [(0, va_rf (kr G p0)), (1, .int x1)] [] K
  refine kv_p (fun _ _ _ _ _ _ v => vv_iconst (pc := 0) (v := 0) d_N_countOf_0 rfl v) ?_
  refine kv_p (fun _ _ _ _ _ _ v => vv_istore_n (pc := 1) d_N_countOf_1 (Nat.le_of_ble_eq_true rfl) v) ?_
  refine kv_p (fun _ _ _ _ _ _ v => vv_aload_nr (pc := 2) d_N_countOf_2 (cp_isr_rf _) rfl v) ?_
  obtain ⟨b1, w⟩ := w
  refine kw_grN (pc := 3) d_N_countOf_3 fl_N_22 b1 rfl rfl ?_
  refine kv_p (fun _ _ _ _ _ _ v => vv_astore_n (pc := 6) d_N_countOf_6 (cp_isr_rf _) (Nat.le_of_ble_eq_true rfl) v) ?_
  exact kw_sub [2, 3, 1, 0] rfl (w G H d n0 z0 hd)
theorem c_N_countOf {D : Nat} {o : cp_G → Option Value} {K' K : cp_K} {p0 : Nat} {x1 : Int32} (w : wp_N_countOf_0 D (fun G => .inl (o G)) K' K p0 x1) : KC (D + 6) m_N_countOf (fun G => [va_rf (kr G p0), .int x1]) K o K' := KC.of2 rfl (fun G => by cases kr G p0 <;> exact ⟨Nat.le_of_ble_eq_true rfl, rfl⟩) (b_N_countOf_0 w)
def wp_N_countOf_7 (D : Nat) (o : cp_G → cp_O) (K' K : cp_K) (p0 : Nat) (x1 : Int32) (x2 : Int32) (p3 : Nat) : Prop := ((p3 = (0 : Nat) → (o = (fun _ => .inl (some (.int x2))) ∧ K' = K)) ∧ (¬ p3 = (0 : Nat) → nd K p3 9 ∧ ((¬ ((K.2.1 p3 0) : Int32) = x1 → JC (D + 6) m_N_countOf o K' 22 (fun G => [(0, va_rf (kr G p0)), (1, .int x1), (2, .int x2), (3, va_rf (kr G p3))]) (fun _ => []) K) ∧ (((K.2.1 p3 0) : Int32) = x1 → JC (D + 6) m_N_countOf o K' 22 (fun G => [(0, va_rf (kr G p0)), (1, .int x1), (2, .int (x2 + 1)), (3, va_rf (kr G p3))]) (fun _ => []) K))))
theorem b_N_countOf_7 {D : Nat} {o : cp_G → cp_O} {K' K : cp_K} {p0 : Nat} {x1 : Int32} {x2 : Int32} {p3 : Nat} (w : wp_N_countOf_7 D o K' K p0 x1 x2 p3) : JC (D + 6) m_N_countOf o K' 7 (fun G => [(0, va_rf (kr G p0)), (1, .int x1), (2, .int x2), (3, va_rf (kr G p3))]) (fun _ => []) K := by
  unfold wp_N_countOf_7 at w
  intro G H d n0 z0 hd
  show kV G H m_N_countOf d n0 z0 (o G) K' 7 [(0, va_rf (kr G p0)), (1, .int x1), (2, .int x2), (3, va_rf (kr G p3))] [] K
  refine kv_p (fun _ _ _ _ _ _ v => vv_aload_nr (pc := 7) d_N_countOf_7 (cp_isr_rf _) rfl v) ?_
  refine kw_ifnull (pc := 8) (tgt := 30) d_N_countOf_8 rfl (fun hc => ?_) (fun hc => ?_)
  · replace w := w.1 hc
    refine kv_p (fun _ _ _ _ _ _ v => vv_iload_n (pc := 30) d_N_countOf_30 rfl v) ?_
    obtain ⟨rfl, rfl⟩ := w
    exact kv_e (fun _ _ => vv_iret (pc := 31) d_N_countOf_31 rfl)
  · replace w := w.2 hc
    refine kv_p (fun _ _ _ _ _ _ v => vv_aload_nr (pc := 11) d_N_countOf_11 (cp_isr_rf _) rfl v) ?_
    obtain ⟨b1, w⟩ := w
    refine kw_giN (pc := 12) d_N_countOf_12 fl_N_7 b1 rfl rfl ?_
    refine kv_p (fun _ _ _ _ _ _ v => vv_iload_n (pc := 15) d_N_countOf_15 rfl v) ?_
    by_cases hc : ((K.2.1 p3 0) : Int32) = x1
    · replace w := w.2 hc
      refine kv_p (fun _ _ _ _ _ _ v => vv_icmp_ne (pc := 16) (tgt := 22) d_N_countOf_16 rfl (fun hn => absurd hc hn) (fun _ => v)) ?_
      refine kv_p (fun _ _ _ _ _ _ v => vv_iinc (pc := 19) (v := (x2 + 1)) d_N_countOf_19 rfl rfl (Nat.le_of_ble_eq_true rfl) v) ?_
      exact kw_sub [1, 2, 0, 3] rfl (w G H d n0 z0 hd)
    · replace w := w.1 hc
      refine kv_p (fun _ _ _ _ _ _ v => vv_icmp_ne (pc := 16) (tgt := 22) d_N_countOf_16 rfl (fun _ => v) (fun hn => absurd hn hc)) ?_
      exact kw_sub [0, 1, 2, 3] rfl (w G H d n0 z0 hd)
def wp_N_countOf_22 (D : Nat) (o : cp_G → cp_O) (K' K : cp_K) (p0 : Nat) (x1 : Int32) (x2 : Int32) (p3 : Nat) : Prop := nd K p3 9 ∧ JC (D + 6) m_N_countOf o K' 7 (fun G => [(0, va_rf (kr G p0)), (1, .int x1), (2, .int x2), (3, va_rf (kr G (K.2.2.1 p3 6)))]) (fun _ => []) K
theorem b_N_countOf_22 {D : Nat} {o : cp_G → cp_O} {K' K : cp_K} {p0 : Nat} {x1 : Int32} {x2 : Int32} {p3 : Nat} (w : wp_N_countOf_22 D o K' K p0 x1 x2 p3) : JC (D + 6) m_N_countOf o K' 22 (fun G => [(0, va_rf (kr G p0)), (1, .int x1), (2, .int x2), (3, va_rf (kr G p3))]) (fun _ => []) K := by
  unfold wp_N_countOf_22 at w
  intro G H d n0 z0 hd
  show kV G H m_N_countOf d n0 z0 (o G) K' 22 [(0, va_rf (kr G p0)), (1, .int x1), (2, .int x2), (3, va_rf (kr G p3))] [] K
  refine kv_p (fun _ _ _ _ _ _ v => vv_aload_nr (pc := 22) d_N_countOf_22 (cp_isr_rf _) rfl v) ?_
  obtain ⟨b1, w⟩ := w
  refine kw_grN (pc := 23) d_N_countOf_23 fl_N_29 b1 rfl rfl ?_
  refine kv_p (fun _ _ _ _ _ _ v => vv_astore_n (pc := 26) d_N_countOf_26 (cp_isr_rf _) (Nat.le_of_ble_eq_true rfl) v) ?_
  refine kv_p (fun _ _ _ _ _ _ v => vv_goto (pc := 27) (tgt := 7) d_N_countOf_27 rfl v) ?_
  exact kw_sub [1, 2, 3, 0] rfl (w G H d n0 z0 hd)
def wp_Q_open_0 (D : Nat) (o : cp_G → cp_O) (K' K : cp_K) (x2 : Int32) : Prop := (o = (fun _ => .inl none) ∧ K' = (kI (kI (kP K 21 0 1) 21 1 (if (nI 80) < x2 then (nI 80) else x2)) 21 2 0))
theorem b_Q_open_0 {D : Nat} {o : cp_G → cp_O} {K' K : cp_K} {x2 : Int32} (w : wp_Q_open_0 D o K' K x2) : JC (D + 6) m_Q_open o K' 0 (fun G => [(0, .ref (cp_b G + 21)), (1, .ref (cp_b G + 1)), (2, .int x2)]) (fun _ => []) K := by
  unfold wp_Q_open_0 at w
  intro G H d n0 z0 hd
  show kV G H m_Q_open d n0 z0 (o G) K' 0 [(0, .ref (cp_b G + 21)), (1, .ref (cp_b G + 1)), (2, .int x2)] [] K
  refine kv_p (fun _ _ _ _ _ _ v => vv_aload_n (pc := 0) d_Q_open_0 rfl v) ?_
  refine kv_p (fun _ _ _ _ _ _ v => vv_aload_n (pc := 1) d_Q_open_1 rfl v) ?_
  refine kw_pr (pc := 2) (q := 1) d_Q_open_2 fl_Q_9 (Or.inl ⟨by decide, rfl⟩) rfl rfl rfl krf_5_0 ?_
  refine kv_p (fun _ _ _ _ _ _ v => vv_aload_n (pc := 5) d_Q_open_5 rfl v) ?_
  refine kv_p (fun _ _ _ _ _ _ v => vv_iload_n (pc := 6) d_Q_open_6 rfl v) ?_
  refine kv_p (fun _ _ _ _ _ _ v => vv_aload_n (pc := 7) d_Q_open_7 rfl v) ?_
  refine kw_al (pc := 8) (len := 80) d_Q_open_8 (by decide) ?_
  refine kv_p (fun _ _ _ _ _ _ v => vv_mmin (pc := 9) d_Q_open_9 ml_Q_22.1 (by omega) (Nat.le_of_ble_eq_true rfl) v) ?_
  refine kw_pi (pc := 12) d_Q_open_12 fl_Q_15 (Or.inl ⟨by decide, rfl⟩) rfl rfl rfl rfl rfl ?_
  refine kv_p (fun _ _ _ _ _ _ v => vv_aload_n (pc := 15) d_Q_open_15 rfl v) ?_
  refine kv_p (fun _ _ _ _ _ _ v => vv_iconst (pc := 16) (v := 0) d_Q_open_16 rfl v) ?_
  refine kw_pi (pc := 17) d_Q_open_17 fl_Q_19 (Or.inl ⟨by decide, rfl⟩) rfl rfl rfl rfl rfl ?_
  obtain ⟨rfl, rfl⟩ := w
  exact kv_e (fun _ _ => vv_vret (pc := 20) d_Q_open_20 rfl)
theorem c_Q_open {D : Nat} {o : cp_G → Option Value} {K' K : cp_K} {x2 : Int32} (w : wp_Q_open_0 D (fun G => .inl (o G)) K' K x2) : KC (D + 6) m_Q_open (fun G => [.ref (cp_b G + 21), .ref (cp_b G + 1), .int x2]) K o K' := KC.of2 rfl (fun G => by exact ⟨Nat.le_of_ble_eq_true rfl, rfl⟩) (b_Q_open_0 w)
def wp_Q_place_0 (D : Nat) (o : cp_G → cp_O) (K' K : cp_K) : Prop := (o = (fun _ => .inl (some (.int (K.2.1 21 2)))) ∧ K' = K)
theorem b_Q_place_0 {D : Nat} {o : cp_G → cp_O} {K' K : cp_K} (w : wp_Q_place_0 D o K' K) : JC (D + 6) m_Q_place o K' 0 (fun G => [(0, .ref (cp_b G + 21))]) (fun _ => []) K := by
  unfold wp_Q_place_0 at w
  intro G H d n0 z0 hd
  show kV G H m_Q_place d n0 z0 (o G) K' 0 [(0, .ref (cp_b G + 21))] [] K
  refine kv_p (fun _ _ _ _ _ _ v => vv_aload_n (pc := 0) d_Q_place_0 rfl v) ?_
  refine kw_gi (pc := 1) d_Q_place_1 fl_Q_19 (Or.inl ⟨by decide, rfl⟩) rfl rfl ?_
  obtain ⟨rfl, rfl⟩ := w
  exact kv_e (fun _ _ => vv_iret (pc := 4) d_Q_place_4 rfl)
theorem c_Q_place {D : Nat} {o : cp_G → Option Value} {K' K : cp_K} (w : wp_Q_place_0 D (fun G => .inl (o G)) K' K) : KC (D + 6) m_Q_place (fun G => [.ref (cp_b G + 21)]) K o K' := KC.of2 rfl (fun G => by exact ⟨Nat.le_of_ble_eq_true rfl, rfl⟩) (b_Q_place_0 w)
def wp_Q_peek_0 (D : Nat) (o : cp_G → cp_O) (K' K : cp_K) : Prop := ((((K.2.1 21 2) : Int32) < 0 → (o = (fun _ => .inl (some (.int 0))) ∧ K' = K ∧ narrow .char (.int 0) = .int 0)) ∧ (¬ ((K.2.1 21 2) : Int32) < 0 → (((K.2.1 21 1) ≤ ((K.2.1 21 2) : Int32) → (o = (fun _ => .inl (some (.int 0))) ∧ K' = K ∧ narrow .char (.int 0) = .int 0)) ∧ (¬ (K.2.1 21 1) ≤ ((K.2.1 21 2) : Int32) → (K.2.2.1 21 0) = 1 ∧ vp_in (K.2.1 21 2) 80 ∧ (o = (fun _ => .inl (some (.int (K.2.1 1 (Int32.toNatClampNeg (K.2.1 21 2)))))) ∧ K' = K ∧ narrow .char (.int (K.2.1 1 (Int32.toNatClampNeg (K.2.1 21 2)))) = .int (K.2.1 1 (Int32.toNatClampNeg (K.2.1 21 2))))))))
theorem b_Q_peek_0 {D : Nat} {o : cp_G → cp_O} {K' K : cp_K} (w : wp_Q_peek_0 D o K' K) : JC (D + 6) m_Q_peek o K' 0 (fun G => [(0, .ref (cp_b G + 21))]) (fun _ => []) K := by
  unfold wp_Q_peek_0 at w
  intro G H d n0 z0 hd
  show kV G H m_Q_peek d n0 z0 (o G) K' 0 [(0, .ref (cp_b G + 21))] [] K
  refine kv_p (fun _ _ _ _ _ _ v => vv_aload_n (pc := 0) d_Q_peek_0 rfl v) ?_
  refine kw_gi (pc := 1) d_Q_peek_1 fl_Q_19 (Or.inl ⟨by decide, rfl⟩) rfl rfl ?_
  by_cases hc : ((K.2.1 21 2) : Int32) < 0
  · replace w := w.1 hc
    refine kv_p (fun _ _ _ _ _ _ v => vv_if_lt (pc := 4) (tgt := 30) d_Q_peek_4 rfl (fun _ => v) (fun hn => absurd hc hn)) ?_
    refine kv_p (fun _ _ _ _ _ _ v => vv_iconst (pc := 30) (v := 0) d_Q_peek_30 rfl v) ?_
    obtain ⟨rfl, rfl, hx⟩ := w
    exact kv_e (fun _ _ => vv_zret (pc := 31) d_Q_peek_31 rfl hx)
  · replace w := w.2 hc
    refine kv_p (fun _ _ _ _ _ _ v => vv_if_lt (pc := 4) (tgt := 30) d_Q_peek_4 rfl (fun hn => absurd hn hc) (fun _ => v)) ?_
    refine kv_p (fun _ _ _ _ _ _ v => vv_aload_n (pc := 7) d_Q_peek_7 rfl v) ?_
    refine kw_gi (pc := 8) d_Q_peek_8 fl_Q_19 (Or.inl ⟨by decide, rfl⟩) rfl rfl ?_
    refine kv_p (fun _ _ _ _ _ _ v => vv_aload_n (pc := 11) d_Q_peek_11 rfl v) ?_
    refine kw_gi (pc := 12) d_Q_peek_12 fl_Q_15 (Or.inl ⟨by decide, rfl⟩) rfl rfl ?_
    by_cases hc : (K.2.1 21 1) ≤ ((K.2.1 21 2) : Int32)
    · replace w := w.1 hc
      refine kv_p (fun _ _ _ _ _ _ v => vv_icmp_ge (pc := 15) (tgt := 30) d_Q_peek_15 rfl (fun _ => v) (fun hn => absurd hc hn)) ?_
      refine kv_p (fun _ _ _ _ _ _ v => vv_iconst (pc := 30) (v := 0) d_Q_peek_30 rfl v) ?_
      obtain ⟨rfl, rfl, hx⟩ := w
      exact kv_e (fun _ _ => vv_zret (pc := 31) d_Q_peek_31 rfl hx)
    · replace w := w.2 hc
      refine kv_p (fun _ _ _ _ _ _ v => vv_icmp_ge (pc := 15) (tgt := 30) d_Q_peek_15 rfl (fun hn => absurd hn hc) (fun _ => v)) ?_
      refine kv_p (fun _ _ _ _ _ _ v => vv_aload_n (pc := 18) d_Q_peek_18 rfl v) ?_
      refine kw_gr (pc := 19) d_Q_peek_19 fl_Q_9 (Or.inl ⟨by decide, rfl⟩) rfl rfl ?_
      refine kv_p (fun _ _ _ _ _ _ v => vv_aload_n (pc := 22) d_Q_peek_22 rfl v) ?_
      refine kw_gi (pc := 23) d_Q_peek_23 fl_Q_19 (Or.inl ⟨by decide, rfl⟩) rfl rfl ?_
      obtain ⟨b1, w⟩ := w
      obtain ⟨b2, w⟩ := w
      refine kw_clN (pc := 26) d_Q_peek_26 b1 b2 ?_
      refine kv_p (fun _ _ _ _ _ _ v => vv_goto (pc := 27) (tgt := 31) d_Q_peek_27 rfl v) ?_
      obtain ⟨rfl, rfl, hx⟩ := w
      exact kv_e (fun _ _ => vv_zret (pc := 31) d_Q_peek_31 rfl hx)
theorem c_Q_peek {D : Nat} {o : cp_G → Option Value} {K' K : cp_K} (w : wp_Q_peek_0 D (fun G => .inl (o G)) K' K) : KC (D + 6) m_Q_peek (fun G => [.ref (cp_b G + 21)]) K o K' := KC.of2 rfl (fun G => by exact ⟨Nat.le_of_ble_eq_true rfl, rfl⟩) (b_Q_peek_0 w)
def wp_D_find_0 (D : Nat) (o : cp_G → cp_O) (K' K : cp_K) (x1 : Int32) : Prop := ((((x1 - 65) : Int32) < 0 → (o = (fun G => .inl (some (va_rf (kr G 0)))) ∧ K' = K)) ∧ (¬ ((x1 - 65) : Int32) < 0 → ((26 ≤ ((x1 - 65) : Int32) → (o = (fun G => .inl (some (va_rf (kr G 0)))) ∧ K' = K)) ∧ (¬ 26 ≤ ((x1 - 65) : Int32) → vp_in (x1 - 65) 26 ∧ (o = (fun G => .inl (some (va_rf (kr G (K.2.2.1 4 (Int32.toNatClampNeg (x1 - 65))))))) ∧ K' = K)))))
theorem b_D_find_0 {D : Nat} {o : cp_G → cp_O} {K' K : cp_K} {x1 : Int32} (w : wp_D_find_0 D o K' K x1) : JC (D + 6) m_D_find o K' 0 (fun G => [(0, .ref (cp_b G + 3)), (1, .int x1)]) (fun _ => []) K := by
  unfold wp_D_find_0 at w
  intro G H d n0 z0 hd
  show kV G H m_D_find d n0 z0 (o G) K' 0 [(0, .ref (cp_b G + 3)), (1, .int x1)] [] K
  refine kv_p (fun _ _ _ _ _ _ v => vv_iload_n (pc := 0) d_D_find_0 rfl v) ?_
  refine kv_p (fun _ _ _ _ _ _ v => vv_bipush (pc := 1) (v := 65) d_D_find_1 rfl v) ?_
  refine kv_p (fun _ _ _ _ _ _ v => vv_isub (pc := 3) d_D_find_3 v) ?_
  refine kv_p (fun _ _ _ _ _ _ v => vv_istore_n (pc := 4) d_D_find_4 (Nat.le_of_ble_eq_true rfl) v) ?_
  refine kv_p (fun _ _ _ _ _ _ v => vv_iload_n (pc := 5) d_D_find_5 rfl v) ?_
  by_cases hc : ((x1 - 65) : Int32) < 0
  · replace w := w.1 hc
    refine kv_p (fun _ _ _ _ _ _ v => vv_if_lt (pc := 6) (tgt := 24) d_D_find_6 rfl (fun _ => v) (fun hn => absurd hc hn)) ?_
    refine kw_null (pc := 24) d_D_find_24 ?_
    obtain ⟨rfl, rfl⟩ := w
    exact kv_e (fun _ _ => vv_aret (pc := 25) d_D_find_25 rfl (Or.inl ⟨_, rfl⟩) (cp_isr_rf _))
  · replace w := w.2 hc
    refine kv_p (fun _ _ _ _ _ _ v => vv_if_lt (pc := 6) (tgt := 24) d_D_find_6 rfl (fun hn => absurd hn hc) (fun _ => v)) ?_
    refine kv_p (fun _ _ _ _ _ _ v => vv_iload_n (pc := 9) d_D_find_9 rfl v) ?_
    refine kv_p (fun _ _ _ _ _ _ v => vv_bipush (pc := 10) (v := 26) d_D_find_10 rfl v) ?_
    by_cases hc : 26 ≤ ((x1 - 65) : Int32)
    · replace w := w.1 hc
      refine kv_p (fun _ _ _ _ _ _ v => vv_icmp_ge (pc := 12) (tgt := 24) d_D_find_12 rfl (fun _ => v) (fun hn => absurd hc hn)) ?_
      refine kw_null (pc := 24) d_D_find_24 ?_
      obtain ⟨rfl, rfl⟩ := w
      exact kv_e (fun _ _ => vv_aret (pc := 25) d_D_find_25 rfl (Or.inl ⟨_, rfl⟩) (cp_isr_rf _))
    · replace w := w.2 hc
      refine kv_p (fun _ _ _ _ _ _ v => vv_icmp_ge (pc := 12) (tgt := 24) d_D_find_12 rfl (fun hn => absurd hn hc) (fun _ => v)) ?_
      refine kv_p (fun _ _ _ _ _ _ v => vv_aload_n (pc := 15) d_D_find_15 rfl v) ?_
      refine kw_gf (pc := 16) 4 d_D_find_16 fl_D_11 (Or.inl ⟨by decide, rfl⟩) rfl (by decide) ?_
      refine kv_p (fun _ _ _ _ _ _ v => vv_iload_n (pc := 19) d_D_find_19 rfl v) ?_
      obtain ⟨b1, w⟩ := w
      refine kw_el (pc := 20) d_D_find_20 b1 ?_
      refine kv_p (fun _ _ _ _ _ _ v => vv_goto (pc := 21) (tgt := 25) d_D_find_21 rfl v) ?_
      obtain ⟨rfl, rfl⟩ := w
      exact kv_e (fun _ _ => vv_aret (pc := 25) d_D_find_25 rfl (Or.inl ⟨_, rfl⟩) (cp_isr_rf _))
theorem c_D_find {D : Nat} {o : cp_G → Option Value} {K' K : cp_K} {x1 : Int32} (w : wp_D_find_0 D (fun G => .inl (o G)) K' K x1) : KC (D + 6) m_D_find (fun G => [.ref (cp_b G + 3), .int x1]) K o K' := KC.of2 rfl (fun G => by exact ⟨Nat.le_of_ble_eq_true rfl, rfl⟩) (b_D_find_0 w)
def wp_D_isEmpty_0 (D : Nat) (o : cp_G → cp_O) (K' K : cp_K) : Prop := ((¬ ((K.2.1 3 2) : Int32) = 0 → (o = (fun _ => .inl (some (.int 0))) ∧ K' = K)) ∧ (((K.2.1 3 2) : Int32) = 0 → (o = (fun _ => .inl (some (.int 1))) ∧ K' = K)))
theorem b_D_isEmpty_0 {D : Nat} {o : cp_G → cp_O} {K' K : cp_K} (w : wp_D_isEmpty_0 D o K' K) : JC (D + 6) m_D_isEmpty o K' 0 (fun G => [(0, .ref (cp_b G + 3))]) (fun _ => []) K := by
  unfold wp_D_isEmpty_0 at w
  intro G H d n0 z0 hd
  show kV G H m_D_isEmpty d n0 z0 (o G) K' 0 [(0, .ref (cp_b G + 3))] [] K
  refine kv_p (fun _ _ _ _ _ _ v => vv_aload_n (pc := 0) d_D_isEmpty_0 rfl v) ?_
  refine kw_gi (pc := 1) d_D_isEmpty_1 fl_D_21 (Or.inl ⟨by decide, rfl⟩) rfl rfl ?_
  by_cases hc : ((K.2.1 3 2) : Int32) = 0
  · replace w := w.2 hc
    refine kv_p (fun _ _ _ _ _ _ v => vv_if_ne (pc := 4) (tgt := 11) d_D_isEmpty_4 rfl (fun hn => absurd hc hn) (fun _ => v)) ?_
    refine kv_p (fun _ _ _ _ _ _ v => vv_iconst (pc := 7) (v := 1) d_D_isEmpty_7 rfl v) ?_
    refine kv_p (fun _ _ _ _ _ _ v => vv_goto (pc := 8) (tgt := 12) d_D_isEmpty_8 rfl v) ?_
    obtain ⟨rfl, rfl⟩ := w
    exact kv_e (fun _ _ => vv_zret (pc := 12) d_D_isEmpty_12 rfl rfl)
  · replace w := w.1 hc
    refine kv_p (fun _ _ _ _ _ _ v => vv_if_ne (pc := 4) (tgt := 11) d_D_isEmpty_4 rfl (fun _ => v) (fun hn => absurd hn hc)) ?_
    refine kv_p (fun _ _ _ _ _ _ v => vv_iconst (pc := 11) (v := 0) d_D_isEmpty_11 rfl v) ?_
    obtain ⟨rfl, rfl⟩ := w
    exact kv_e (fun _ _ => vv_zret (pc := 12) d_D_isEmpty_12 rfl rfl)
theorem c_D_isEmpty {D : Nat} {o : cp_G → Option Value} {K' K : cp_K} (w : wp_D_isEmpty_0 D (fun G => .inl (o G)) K' K) : KC (D + 6) m_D_isEmpty (fun G => [.ref (cp_b G + 3)]) K o K' := KC.of2 rfl (fun G => by exact ⟨Nat.le_of_ble_eq_true rfl, rfl⟩) (b_D_isEmpty_0 w)
def wp_D_add_0 (D : Nat) (o : cp_G → cp_O) (K' K : cp_K) (p1 : Nat) : Prop := nd K p1 10 ∧ (((((K.2.1 p1 0) - 65) : Int32) < 0 → (o = (fun _ => .inl none) ∧ K' = K)) ∧ (¬ (((K.2.1 p1 0) - 65) : Int32) < 0 → ((26 ≤ (((K.2.1 p1 0) - 65) : Int32) → (o = (fun _ => .inl none) ∧ K' = K)) ∧ (¬ 26 ≤ (((K.2.1 p1 0) - 65) : Int32) → ((26 ≤ ((K.2.1 3 2) : Int32) → (o = (fun _ => .inl none) ∧ K' = K)) ∧ (¬ 26 ≤ ((K.2.1 3 2) : Int32) → vp_in ((K.2.1 p1 0) - 65) 26 ∧ nd K p1 10 ∧ nd (kP K 4 (Int32.toNatClampNeg ((K.2.1 p1 0) - 65)) p1) p1 10 ∧ vp_in ((kP K 4 (Int32.toNatClampNeg ((K.2.1 p1 0) - 65)) p1).2.1 3 2) 26 ∧ (o = (fun _ => .inl none) ∧ K' = (kI (kI (kP K 4 (Int32.toNatClampNeg ((K.2.1 p1 0) - 65)) p1) 5 (Int32.toNatClampNeg ((kP K 4 (Int32.toNatClampNeg ((K.2.1 p1 0) - 65)) p1).2.1 3 2)) (vp_nar .char ((kP K 4 (Int32.toNatClampNeg ((K.2.1 p1 0) - 65)) p1).2.1 p1 0))) 3 2 (((kI (kP K 4 (Int32.toNatClampNeg ((K.2.1 p1 0) - 65)) p1) 5 (Int32.toNatClampNeg ((kP K 4 (Int32.toNatClampNeg ((K.2.1 p1 0) - 65)) p1).2.1 3 2)) (vp_nar .char ((kP K 4 (Int32.toNatClampNeg ((K.2.1 p1 0) - 65)) p1).2.1 p1 0))).2.1 3 2) + 1)))))))))
theorem b_D_add_0 {D : Nat} {o : cp_G → cp_O} {K' K : cp_K} {p1 : Nat} (w : wp_D_add_0 D o K' K p1) : JC (D + 6) m_D_add o K' 0 (fun G => [(0, .ref (cp_b G + 3)), (1, va_rf (kr G p1))]) (fun _ => []) K := by
  unfold wp_D_add_0 at w
  intro G H d n0 z0 hd
  show kV G H m_D_add d n0 z0 (o G) K' 0 [(0, .ref (cp_b G + 3)), (1, va_rf (kr G p1))] [] K
  refine kv_p (fun _ _ _ _ _ _ v => vv_aload_nr (pc := 0) d_D_add_0 (cp_isr_rf _) rfl v) ?_
  obtain ⟨b1, w⟩ := w
  refine kw_giN (pc := 1) d_D_add_1 fl_D_44 b1 rfl rfl ?_
  refine kv_p (fun _ _ _ _ _ _ v => vv_bipush (pc := 4) (v := 65) d_D_add_4 rfl v) ?_
  refine kv_p (fun _ _ _ _ _ _ v => vv_isub (pc := 6) d_D_add_6 v) ?_
  refine kv_p (fun _ _ _ _ _ _ v => vv_istore_n (pc := 7) d_D_add_7 (Nat.le_of_ble_eq_true rfl) v) ?_
  refine kw_lv (lv := [(2, .int ((K.2.1 p1 0) - 65)), (0, .ref (cp_b G + 3)), (1, va_rf (kr G p1))]) (by cases kr G p1 <;> rfl) ?_
  refine kv_p (fun _ _ _ _ _ _ v => vv_iload_n (pc := 8) d_D_add_8 rfl v) ?_
  by_cases hc : (((K.2.1 p1 0) - 65) : Int32) < 0
  · replace w := w.1 hc
    refine kv_p (fun _ _ _ _ _ _ v => vv_if_lt (pc := 9) (tgt := 57) d_D_add_9 rfl (fun _ => v) (fun hn => absurd hc hn)) ?_
    obtain ⟨rfl, rfl⟩ := w
    exact kv_e (fun _ _ => vv_vret (pc := 57) d_D_add_57 rfl)
  · replace w := w.2 hc
    refine kv_p (fun _ _ _ _ _ _ v => vv_if_lt (pc := 9) (tgt := 57) d_D_add_9 rfl (fun hn => absurd hn hc) (fun _ => v)) ?_
    refine kv_p (fun _ _ _ _ _ _ v => vv_iload_n (pc := 12) d_D_add_12 rfl v) ?_
    refine kv_p (fun _ _ _ _ _ _ v => vv_bipush (pc := 13) (v := 26) d_D_add_13 rfl v) ?_
    by_cases hc : 26 ≤ (((K.2.1 p1 0) - 65) : Int32)
    · replace w := w.1 hc
      refine kv_p (fun _ _ _ _ _ _ v => vv_icmp_ge (pc := 15) (tgt := 57) d_D_add_15 rfl (fun _ => v) (fun hn => absurd hc hn)) ?_
      obtain ⟨rfl, rfl⟩ := w
      exact kv_e (fun _ _ => vv_vret (pc := 57) d_D_add_57 rfl)
    · replace w := w.2 hc
      refine kv_p (fun _ _ _ _ _ _ v => vv_icmp_ge (pc := 15) (tgt := 57) d_D_add_15 rfl (fun hn => absurd hn hc) (fun _ => v)) ?_
      refine kv_p (fun _ _ _ _ _ _ v => vv_aload_n (pc := 18) d_D_add_18 rfl v) ?_
      refine kw_gi (pc := 19) d_D_add_19 fl_D_21 (Or.inl ⟨by decide, rfl⟩) rfl rfl ?_
      refine kv_p (fun _ _ _ _ _ _ v => vv_bipush (pc := 22) (v := 26) d_D_add_22 rfl v) ?_
      by_cases hc : 26 ≤ ((K.2.1 3 2) : Int32)
      · replace w := w.1 hc
        refine kv_p (fun _ _ _ _ _ _ v => vv_icmp_ge (pc := 24) (tgt := 57) d_D_add_24 rfl (fun _ => v) (fun hn => absurd hc hn)) ?_
        obtain ⟨rfl, rfl⟩ := w
        exact kv_e (fun _ _ => vv_vret (pc := 57) d_D_add_57 rfl)
      · replace w := w.2 hc
        refine kv_p (fun _ _ _ _ _ _ v => vv_icmp_ge (pc := 24) (tgt := 57) d_D_add_24 rfl (fun hn => absurd hn hc) (fun _ => v)) ?_
        refine kv_p (fun _ _ _ _ _ _ v => vv_aload_n (pc := 27) d_D_add_27 rfl v) ?_
        refine kw_gf (pc := 28) 4 d_D_add_28 fl_D_11 (Or.inl ⟨by decide, rfl⟩) rfl (by decide) ?_
        refine kv_p (fun _ _ _ _ _ _ v => vv_iload_n (pc := 31) d_D_add_31 rfl v) ?_
        refine kv_p (fun _ _ _ _ _ _ v => vv_aload_nr (pc := 32) d_D_add_32 (cp_isr_rf _) rfl v) ?_
        obtain ⟨b2, w⟩ := w
        obtain ⟨b3, w⟩ := w
        refine kw_es (pc := 33) d_D_add_33 b2 b3 ?_
        refine kv_p (fun _ _ _ _ _ _ v => vv_aload_n (pc := 34) d_D_add_34 rfl v) ?_
        refine kw_gf (pc := 35) 5 d_D_add_35 fl_D_17 (Or.inl ⟨by decide, rfl⟩) rfl (by decide) ?_
        refine kv_p (fun _ _ _ _ _ _ v => vv_aload_n (pc := 38) d_D_add_38 rfl v) ?_
        refine kw_gi (pc := 39) d_D_add_39 fl_D_21 (Or.inl ⟨by decide, rfl⟩) rfl rfl ?_
        refine kv_p (fun _ _ _ _ _ _ v => vv_aload_nr (pc := 42) d_D_add_42 (cp_isr_rf _) rfl v) ?_
        obtain ⟨b4, w⟩ := w
        refine kw_giN (pc := 43) d_D_add_43 fl_D_44 b4 rfl rfl ?_
        obtain ⟨b5, w⟩ := w
        refine kw_cs (pc := 46) (len := 26) d_D_add_46 (by decide) b5 ?_
        refine kv_p (fun _ _ _ _ _ _ v => vv_aload_n (pc := 47) d_D_add_47 rfl v) ?_
        refine kv_p (fun _ _ _ _ _ _ v => vv_dup (pc := 48) d_D_add_48 rfl v) ?_
        refine kw_gi (pc := 49) d_D_add_49 fl_D_21 (Or.inl ⟨by decide, rfl⟩) rfl rfl ?_
        refine kv_p (fun _ _ _ _ _ _ v => vv_iconst (pc := 52) (v := 1) d_D_add_52 rfl v) ?_
        refine kv_p (fun _ _ _ _ _ _ v => vv_iadd (pc := 53) d_D_add_53 v) ?_
        refine kw_pi (pc := 54) d_D_add_54 fl_D_21 (Or.inl ⟨by decide, rfl⟩) rfl rfl rfl rfl rfl ?_
        obtain ⟨rfl, rfl⟩ := w
        exact kv_e (fun _ _ => vv_vret (pc := 57) d_D_add_57 rfl)
theorem c_D_add {D : Nat} {o : cp_G → Option Value} {K' K : cp_K} {p1 : Nat} (w : wp_D_add_0 D (fun G => .inl (o G)) K' K p1) : KC (D + 6) m_D_add (fun G => [.ref (cp_b G + 3), va_rf (kr G p1)]) K o K' := KC.of2 rfl (fun G => by cases kr G p1 <;> exact ⟨Nat.le_of_ble_eq_true rfl, rfl⟩) (b_D_add_0 w)
def wp_D_removeLatest_0 (D : Nat) (o : cp_G → cp_O) (K' K : cp_K) : Prop := ((¬ ((K.2.1 3 2) : Int32) = 0 → vp_in ((kI K 3 2 ((K.2.1 3 2) - 1)).2.1 3 2) 26 ∧ ((((((kI K 3 2 ((K.2.1 3 2) - 1)).2.1 5 (Int32.toNatClampNeg ((kI K 3 2 ((K.2.1 3 2) - 1)).2.1 3 2))) - 65) : Int32) < 0 → (o = (fun _ => .inl (some (.int ((kI K 3 2 ((K.2.1 3 2) - 1)).2.1 5 (Int32.toNatClampNeg ((kI K 3 2 ((K.2.1 3 2) - 1)).2.1 3 2)))))) ∧ K' = (kI K 3 2 ((K.2.1 3 2) - 1)) ∧ narrow .char (.int ((kI K 3 2 ((K.2.1 3 2) - 1)).2.1 5 (Int32.toNatClampNeg ((kI K 3 2 ((K.2.1 3 2) - 1)).2.1 3 2)))) = .int ((kI K 3 2 ((K.2.1 3 2) - 1)).2.1 5 (Int32.toNatClampNeg ((kI K 3 2 ((K.2.1 3 2) - 1)).2.1 3 2))))) ∧ (¬ ((((kI K 3 2 ((K.2.1 3 2) - 1)).2.1 5 (Int32.toNatClampNeg ((kI K 3 2 ((K.2.1 3 2) - 1)).2.1 3 2))) - 65) : Int32) < 0 → ((26 ≤ ((((kI K 3 2 ((K.2.1 3 2) - 1)).2.1 5 (Int32.toNatClampNeg ((kI K 3 2 ((K.2.1 3 2) - 1)).2.1 3 2))) - 65) : Int32) → (o = (fun _ => .inl (some (.int ((kI K 3 2 ((K.2.1 3 2) - 1)).2.1 5 (Int32.toNatClampNeg ((kI K 3 2 ((K.2.1 3 2) - 1)).2.1 3 2)))))) ∧ K' = (kI K 3 2 ((K.2.1 3 2) - 1)) ∧ narrow .char (.int ((kI K 3 2 ((K.2.1 3 2) - 1)).2.1 5 (Int32.toNatClampNeg ((kI K 3 2 ((K.2.1 3 2) - 1)).2.1 3 2)))) = .int ((kI K 3 2 ((K.2.1 3 2) - 1)).2.1 5 (Int32.toNatClampNeg ((kI K 3 2 ((K.2.1 3 2) - 1)).2.1 3 2))))) ∧ (¬ 26 ≤ ((((kI K 3 2 ((K.2.1 3 2) - 1)).2.1 5 (Int32.toNatClampNeg ((kI K 3 2 ((K.2.1 3 2) - 1)).2.1 3 2))) - 65) : Int32) → vp_in (((kI K 3 2 ((K.2.1 3 2) - 1)).2.1 5 (Int32.toNatClampNeg ((kI K 3 2 ((K.2.1 3 2) - 1)).2.1 3 2))) - 65) 26 ∧ (o = (fun _ => .inl (some (.int ((kI K 3 2 ((K.2.1 3 2) - 1)).2.1 5 (Int32.toNatClampNeg ((kI K 3 2 ((K.2.1 3 2) - 1)).2.1 3 2)))))) ∧ K' = (kP (kI K 3 2 ((K.2.1 3 2) - 1)) 4 (Int32.toNatClampNeg (((kI K 3 2 ((K.2.1 3 2) - 1)).2.1 5 (Int32.toNatClampNeg ((kI K 3 2 ((K.2.1 3 2) - 1)).2.1 3 2))) - 65)) 0) ∧ narrow .char (.int ((kI K 3 2 ((K.2.1 3 2) - 1)).2.1 5 (Int32.toNatClampNeg ((kI K 3 2 ((K.2.1 3 2) - 1)).2.1 3 2)))) = .int ((kI K 3 2 ((K.2.1 3 2) - 1)).2.1 5 (Int32.toNatClampNeg ((kI K 3 2 ((K.2.1 3 2) - 1)).2.1 3 2))))))))) ∧ (((K.2.1 3 2) : Int32) = 0 → (o = (fun _ => .inl (some (.int 32))) ∧ K' = K ∧ narrow .char (.int 32) = .int 32)))
theorem b_D_removeLatest_0 {D : Nat} {o : cp_G → cp_O} {K' K : cp_K} (w : wp_D_removeLatest_0 D o K' K) : JC (D + 6) m_D_removeLatest o K' 0 (fun G => [(0, .ref (cp_b G + 3))]) (fun _ => []) K := by
  unfold wp_D_removeLatest_0 at w
  intro G H d n0 z0 hd
  show kV G H m_D_removeLatest d n0 z0 (o G) K' 0 [(0, .ref (cp_b G + 3))] [] K
  refine kv_p (fun _ _ _ _ _ _ v => vv_aload_n (pc := 0) d_D_removeLatest_0 rfl v) ?_
  refine kw_gi (pc := 1) d_D_removeLatest_1 fl_D_21 (Or.inl ⟨by decide, rfl⟩) rfl rfl ?_
  by_cases hc : ((K.2.1 3 2) : Int32) = 0
  · replace w := w.2 hc
    refine kv_p (fun _ _ _ _ _ _ v => vv_if_ne (pc := 4) (tgt := 10) d_D_removeLatest_4 rfl (fun hn => absurd hc hn) (fun _ => v)) ?_
    refine kv_p (fun _ _ _ _ _ _ v => vv_bipush (pc := 7) (v := 32) d_D_removeLatest_7 rfl v) ?_
    obtain ⟨rfl, rfl, hx⟩ := w
    exact kv_e (fun _ _ => vv_zret (pc := 9) d_D_removeLatest_9 rfl hx)
  · replace w := w.1 hc
    refine kv_p (fun _ _ _ _ _ _ v => vv_if_ne (pc := 4) (tgt := 10) d_D_removeLatest_4 rfl (fun _ => v) (fun hn => absurd hn hc)) ?_
    refine kv_p (fun _ _ _ _ _ _ v => vv_aload_n (pc := 10) d_D_removeLatest_10 rfl v) ?_
    refine kv_p (fun _ _ _ _ _ _ v => vv_dup (pc := 11) d_D_removeLatest_11 rfl v) ?_
    refine kw_gi (pc := 12) d_D_removeLatest_12 fl_D_21 (Or.inl ⟨by decide, rfl⟩) rfl rfl ?_
    refine kv_p (fun _ _ _ _ _ _ v => vv_iconst (pc := 15) (v := 1) d_D_removeLatest_15 rfl v) ?_
    refine kv_p (fun _ _ _ _ _ _ v => vv_isub (pc := 16) d_D_removeLatest_16 v) ?_
    refine kw_pi (pc := 17) d_D_removeLatest_17 fl_D_21 (Or.inl ⟨by decide, rfl⟩) rfl rfl rfl rfl rfl ?_
    refine kv_p (fun _ _ _ _ _ _ v => vv_aload_n (pc := 20) d_D_removeLatest_20 rfl v) ?_
    refine kw_gf (pc := 21) 5 d_D_removeLatest_21 fl_D_17 (Or.inl ⟨by decide, rfl⟩) rfl (by decide) ?_
    refine kv_p (fun _ _ _ _ _ _ v => vv_aload_n (pc := 24) d_D_removeLatest_24 rfl v) ?_
    refine kw_gi (pc := 25) d_D_removeLatest_25 fl_D_21 (Or.inl ⟨by decide, rfl⟩) rfl rfl ?_
    obtain ⟨b1, w⟩ := w
    refine kw_cl (pc := 28) d_D_removeLatest_28 (by decide) b1 ?_
    refine kv_p (fun _ _ _ _ _ _ v => vv_istore_n (pc := 29) d_D_removeLatest_29 (Nat.le_of_ble_eq_true rfl) v) ?_
    refine kv_p (fun _ _ _ _ _ _ v => vv_iload_n (pc := 30) d_D_removeLatest_30 rfl v) ?_
    refine kv_p (fun _ _ _ _ _ _ v => vv_bipush (pc := 31) (v := 65) d_D_removeLatest_31 rfl v) ?_
    refine kv_p (fun _ _ _ _ _ _ v => vv_isub (pc := 33) d_D_removeLatest_33 v) ?_
    refine kv_p (fun _ _ _ _ _ _ v => vv_istore_n (pc := 34) d_D_removeLatest_34 (Nat.le_of_ble_eq_true rfl) v) ?_
    refine kv_p (fun _ _ _ _ _ _ v => vv_iload_n (pc := 35) d_D_removeLatest_35 rfl v) ?_
    by_cases hc : ((((kI K 3 2 ((K.2.1 3 2) - 1)).2.1 5 (Int32.toNatClampNeg ((kI K 3 2 ((K.2.1 3 2) - 1)).2.1 3 2))) - 65) : Int32) < 0
    · replace w := w.1 hc
      refine kv_p (fun _ _ _ _ _ _ v => vv_if_lt (pc := 36) (tgt := 52) d_D_removeLatest_36 rfl (fun _ => v) (fun hn => absurd hc hn)) ?_
      refine kv_p (fun _ _ _ _ _ _ v => vv_iload_n (pc := 52) d_D_removeLatest_52 rfl v) ?_
      obtain ⟨rfl, rfl, hx⟩ := w
      exact kv_e (fun _ _ => vv_zret (pc := 53) d_D_removeLatest_53 rfl hx)
    · replace w := w.2 hc
      refine kv_p (fun _ _ _ _ _ _ v => vv_if_lt (pc := 36) (tgt := 52) d_D_removeLatest_36 rfl (fun hn => absurd hn hc) (fun _ => v)) ?_
      refine kv_p (fun _ _ _ _ _ _ v => vv_iload_n (pc := 39) d_D_removeLatest_39 rfl v) ?_
      refine kv_p (fun _ _ _ _ _ _ v => vv_bipush (pc := 40) (v := 26) d_D_removeLatest_40 rfl v) ?_
      by_cases hc : 26 ≤ ((((kI K 3 2 ((K.2.1 3 2) - 1)).2.1 5 (Int32.toNatClampNeg ((kI K 3 2 ((K.2.1 3 2) - 1)).2.1 3 2))) - 65) : Int32)
      · replace w := w.1 hc
        refine kv_p (fun _ _ _ _ _ _ v => vv_icmp_ge (pc := 42) (tgt := 52) d_D_removeLatest_42 rfl (fun _ => v) (fun hn => absurd hc hn)) ?_
        refine kv_p (fun _ _ _ _ _ _ v => vv_iload_n (pc := 52) d_D_removeLatest_52 rfl v) ?_
        obtain ⟨rfl, rfl, hx⟩ := w
        exact kv_e (fun _ _ => vv_zret (pc := 53) d_D_removeLatest_53 rfl hx)
      · replace w := w.2 hc
        refine kv_p (fun _ _ _ _ _ _ v => vv_icmp_ge (pc := 42) (tgt := 52) d_D_removeLatest_42 rfl (fun hn => absurd hn hc) (fun _ => v)) ?_
        refine kv_p (fun _ _ _ _ _ _ v => vv_aload_n (pc := 45) d_D_removeLatest_45 rfl v) ?_
        refine kw_gf (pc := 46) 4 d_D_removeLatest_46 fl_D_11 (Or.inl ⟨by decide, rfl⟩) rfl (by decide) ?_
        refine kv_p (fun _ _ _ _ _ _ v => vv_iload_n (pc := 49) d_D_removeLatest_49 rfl v) ?_
        refine kw_null (pc := 50) d_D_removeLatest_50 ?_
        obtain ⟨b2, w⟩ := w
        refine kw_es0 (pc := 51) d_D_removeLatest_51 b2 ?_
        refine kv_p (fun _ _ _ _ _ _ v => vv_iload_n (pc := 52) d_D_removeLatest_52 rfl v) ?_
        obtain ⟨rfl, rfl, hx⟩ := w
        exact kv_e (fun _ _ => vv_zret (pc := 53) d_D_removeLatest_53 rfl hx)
theorem c_D_removeLatest {D : Nat} {o : cp_G → Option Value} {K' K : cp_K} (w : wp_D_removeLatest_0 D (fun G => .inl (o G)) K' K) : KC (D + 6) m_D_removeLatest (fun G => [.ref (cp_b G + 3)]) K o K' := KC.of2 rfl (fun G => by exact ⟨Nat.le_of_ble_eq_true rfl, rfl⟩) (b_D_removeLatest_0 w)
def wp_Q_whole_0 (D : Nat) (o : cp_G → cp_O) (K' K : cp_K) (p1 : Nat) : Prop := ((¬ ((K.2.1 21 2) : Int32) = (K.2.1 21 1) → (o = (fun G => .inl (some (va_rf (kr G 0)))) ∧ K' = K)) ∧ (((K.2.1 21 2) : Int32) = (K.2.1 21 1) → (o = (fun G => .inl (some (va_rf (kr G p1)))) ∧ K' = K)))
theorem b_Q_whole_0 {D : Nat} {o : cp_G → cp_O} {K' K : cp_K} {p1 : Nat} (w : wp_Q_whole_0 D o K' K p1) : JC (D + 6) m_Q_whole o K' 0 (fun G => [(0, .ref (cp_b G + 21)), (1, va_rf (kr G p1))]) (fun _ => []) K := by
  unfold wp_Q_whole_0 at w
  intro G H d n0 z0 hd
  show kV G H m_Q_whole d n0 z0 (o G) K' 0 [(0, .ref (cp_b G + 21)), (1, va_rf (kr G p1))] [] K
  refine kv_p (fun _ _ _ _ _ _ v => vv_aload_n (pc := 0) d_Q_whole_0 rfl v) ?_
  refine kw_gi (pc := 1) d_Q_whole_1 fl_Q_19 (Or.inl ⟨by decide, rfl⟩) rfl rfl ?_
  refine kv_p (fun _ _ _ _ _ _ v => vv_aload_n (pc := 4) d_Q_whole_4 rfl v) ?_
  refine kw_gi (pc := 5) d_Q_whole_5 fl_Q_15 (Or.inl ⟨by decide, rfl⟩) rfl rfl ?_
  by_cases hc : ((K.2.1 21 2) : Int32) = (K.2.1 21 1)
  · replace w := w.2 hc
    refine kv_p (fun _ _ _ _ _ _ v => vv_icmp_ne (pc := 8) (tgt := 15) d_Q_whole_8 rfl (fun hn => absurd hc hn) (fun _ => v)) ?_
    refine kv_p (fun _ _ _ _ _ _ v => vv_aload_nr (pc := 11) d_Q_whole_11 (cp_isr_rf _) rfl v) ?_
    refine kv_p (fun _ _ _ _ _ _ v => vv_goto (pc := 12) (tgt := 16) d_Q_whole_12 rfl v) ?_
    obtain ⟨rfl, rfl⟩ := w
    exact kv_e (fun _ _ => vv_aret (pc := 16) d_Q_whole_16 rfl (Or.inl ⟨_, rfl⟩) (cp_isr_rf _))
  · replace w := w.1 hc
    refine kv_p (fun _ _ _ _ _ _ v => vv_icmp_ne (pc := 8) (tgt := 15) d_Q_whole_8 rfl (fun _ => v) (fun hn => absurd hn hc)) ?_
    refine kw_null (pc := 15) d_Q_whole_15 ?_
    obtain ⟨rfl, rfl⟩ := w
    exact kv_e (fun _ _ => vv_aret (pc := 16) d_Q_whole_16 rfl (Or.inl ⟨_, rfl⟩) (cp_isr_rf _))
theorem c_Q_whole {D : Nat} {o : cp_G → Option Value} {K' K : cp_K} {p1 : Nat} (w : wp_Q_whole_0 D (fun G => .inl (o G)) K' K p1) : KC (D + 6) m_Q_whole (fun G => [.ref (cp_b G + 21), va_rf (kr G p1)]) K o K' := KC.of2 rfl (fun G => by cases kr G p1 <;> exact ⟨Nat.le_of_ble_eq_true rfl, rfl⟩) (b_Q_whole_0 w)
def wp_T_wrongPlace_0 (D : Nat) (o : cp_G → cp_O) (K' K : cp_K) : Prop := (o = (fun _ => .inl (some (.int (K.2.1 24 6)))) ∧ K' = K)
theorem b_T_wrongPlace_0 {D : Nat} {o : cp_G → cp_O} {K' K : cp_K} (w : wp_T_wrongPlace_0 D o K' K) : JC (D + 6) m_T_wrongPlace o K' 0 (fun G => [(0, .ref (cp_b G + 24))]) (fun _ => []) K := by
  unfold wp_T_wrongPlace_0 at w
  intro G H d n0 z0 hd
  show kV G H m_T_wrongPlace d n0 z0 (o G) K' 0 [(0, .ref (cp_b G + 24))] [] K
  refine kv_p (fun _ _ _ _ _ _ v => vv_aload_n (pc := 0) d_T_wrongPlace_0 rfl v) ?_
  refine kw_gi (pc := 1) d_T_wrongPlace_1 fl_T_35 (Or.inl ⟨by decide, rfl⟩) rfl rfl ?_
  obtain ⟨rfl, rfl⟩ := w
  exact kv_e (fun _ _ => vv_iret (pc := 4) d_T_wrongPlace_4 rfl)
theorem c_T_wrongPlace {D : Nat} {o : cp_G → Option Value} {K' K : cp_K} (w : wp_T_wrongPlace_0 D (fun G => .inl (o G)) K' K) : KC (D + 6) m_T_wrongPlace (fun G => [.ref (cp_b G + 24)]) K o K' := KC.of2 rfl (fun G => by exact ⟨Nat.le_of_ble_eq_true rfl, rfl⟩) (b_T_wrongPlace_0 w)
def wp_T_begin_0 (D : Nat) (o : cp_G → cp_O) (K' K : cp_K) (x1 : Int32) : Prop := (narrow (cp_ty 7 4) (.int x1) = .int x1 ∧ fits (cp_ty 7 4) (.int x1) = true) ∧ (o = (fun _ => .inl none) ∧ K' = (kI (kI (kI K 24 4 x1) 24 5 0) 24 6 (-1)))
theorem b_T_begin_0 {D : Nat} {o : cp_G → cp_O} {K' K : cp_K} {x1 : Int32} (w : wp_T_begin_0 D o K' K x1) : JC (D + 6) m_T_begin o K' 0 (fun G => [(0, .ref (cp_b G + 24)), (1, .int x1)]) (fun _ => []) K := by
  unfold wp_T_begin_0 at w
  intro G H d n0 z0 hd
  show kV G H m_T_begin d n0 z0 (o G) K' 0 [(0, .ref (cp_b G + 24)), (1, .int x1)] [] K
  refine kv_p (fun _ _ _ _ _ _ v => vv_aload_n (pc := 0) d_T_begin_0 rfl v) ?_
  refine kv_p (fun _ _ _ _ _ _ v => vv_iload_n (pc := 1) d_T_begin_1 rfl v) ?_
  obtain ⟨b1, w⟩ := w
  refine kw_pi (pc := 2) d_T_begin_2 fl_T_27 (Or.inl ⟨by decide, rfl⟩) rfl rfl rfl b1.1 b1.2 ?_
  refine kv_p (fun _ _ _ _ _ _ v => vv_aload_n (pc := 5) d_T_begin_5 rfl v) ?_
  refine kv_p (fun _ _ _ _ _ _ v => vv_iconst (pc := 6) (v := 0) d_T_begin_6 rfl v) ?_
  refine kw_pi (pc := 7) d_T_begin_7 fl_T_31 (Or.inl ⟨by decide, rfl⟩) rfl rfl rfl rfl rfl ?_
  refine kv_p (fun _ _ _ _ _ _ v => vv_aload_n (pc := 10) d_T_begin_10 rfl v) ?_
  refine kv_p (fun _ _ _ _ _ _ v => vv_iconst (pc := 11) (v := (-1)) d_T_begin_11 rfl v) ?_
  refine kw_pi (pc := 12) d_T_begin_12 fl_T_35 (Or.inl ⟨by decide, rfl⟩) rfl rfl rfl rfl rfl ?_
  obtain ⟨rfl, rfl⟩ := w
  exact kv_e (fun _ _ => vv_vret (pc := 15) d_T_begin_15 rfl)
theorem c_T_begin {D : Nat} {o : cp_G → Option Value} {K' K : cp_K} {x1 : Int32} (w : wp_T_begin_0 D (fun G => .inl (o G)) K' K x1) : KC (D + 6) m_T_begin (fun G => [.ref (cp_b G + 24), .int x1]) K o K' := KC.of2 rfl (fun G => by exact ⟨Nat.le_of_ble_eq_true rfl, rfl⟩) (b_T_begin_0 w)
def wp_U_forgetSteps_0 (D : Nat) (o : cp_G → cp_O) (K' K : cp_K) : Prop := (o = (fun _ => .inl none) ∧ K' = (kI K 23 4 0))
theorem b_U_forgetSteps_0 {D : Nat} {o : cp_G → cp_O} {K' K : cp_K} (w : wp_U_forgetSteps_0 D o K' K) : JC (D + 6) m_U_forgetSteps o K' 0 (fun G => [(0, .ref (cp_b G + 23))]) (fun _ => []) K := by
  unfold wp_U_forgetSteps_0 at w
  intro G H d n0 z0 hd
  show kV G H m_U_forgetSteps d n0 z0 (o G) K' 0 [(0, .ref (cp_b G + 23))] [] K
  refine kv_p (fun _ _ _ _ _ _ v => vv_aload_n (pc := 0) d_U_forgetSteps_0 rfl v) ?_
  refine kv_p (fun _ _ _ _ _ _ v => vv_iconst (pc := 1) (v := 0) d_U_forgetSteps_1 rfl v) ?_
  refine kw_pi (pc := 2) d_U_forgetSteps_2 fl_U_27 (Or.inl ⟨by decide, rfl⟩) rfl rfl rfl rfl rfl ?_
  obtain ⟨rfl, rfl⟩ := w
  exact kv_e (fun _ _ => vv_vret (pc := 5) d_U_forgetSteps_5 rfl)
theorem c_U_forgetSteps {D : Nat} {o : cp_G → Option Value} {K' K : cp_K} (w : wp_U_forgetSteps_0 D (fun G => .inl (o G)) K' K) : KC (D + 6) m_U_forgetSteps (fun G => [.ref (cp_b G + 23)]) K o K' := KC.of2 rfl (fun G => by exact ⟨Nat.le_of_ble_eq_true rfl, rfl⟩) (b_U_forgetSteps_0 w)
def wp_U_allSteps_0 (D : Nat) (o : cp_G → cp_O) (K' K : cp_K) : Prop := (o = (fun _ => .inl (some (.int (K.2.1 23 4)))) ∧ K' = K)
theorem b_U_allSteps_0 {D : Nat} {o : cp_G → cp_O} {K' K : cp_K} (w : wp_U_allSteps_0 D o K' K) : JC (D + 6) m_U_allSteps o K' 0 (fun G => [(0, .ref (cp_b G + 23))]) (fun _ => []) K := by
  unfold wp_U_allSteps_0 at w
  intro G H d n0 z0 hd
  show kV G H m_U_allSteps d n0 z0 (o G) K' 0 [(0, .ref (cp_b G + 23))] [] K
  refine kv_p (fun _ _ _ _ _ _ v => vv_aload_n (pc := 0) d_U_allSteps_0 rfl v) ?_
  refine kw_gi (pc := 1) d_U_allSteps_1 fl_U_27 (Or.inl ⟨by decide, rfl⟩) rfl rfl ?_
  obtain ⟨rfl, rfl⟩ := w
  exact kv_e (fun _ _ => vv_iret (pc := 4) d_U_allSteps_4 rfl)
theorem c_U_allSteps {D : Nat} {o : cp_G → Option Value} {K' K : cp_K} (w : wp_U_allSteps_0 D (fun G => .inl (o G)) K' K) : KC (D + 6) m_U_allSteps (fun G => [.ref (cp_b G + 23)]) K o K' := KC.of2 rfl (fun G => by exact ⟨Nat.le_of_ble_eq_true rfl, rfl⟩) (b_U_allSteps_0 w)
