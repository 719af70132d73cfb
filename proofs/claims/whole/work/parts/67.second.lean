/-! ===== the second group (printed by cxb.py) ===== -/
def spairs (K : cp_K) (x y : Int32) : cp_K := kpush (kpush (kcut K 11 0) 11 x) 11 y
def qopen (K : cp_K) (x : Int32) : cp_K := kI (kI (kP K 21 0 1) 21 1 (if (nI 80) < x then (nI 80) else x)) 21 2 0
def tbegin (K : cp_K) (x : Int32) : cp_K := kI (kI (kI K 24 4 x) 24 5 0) 24 6 (-1)
section CPND
variable {K : cp_K} {p q c : Nat} {x y z i : Int32}
theorem nd_bpush (h : nd K p c) : nd (bpush K x y z) p c := nd_push (nd_push (nd_push h))
theorem nd_bcut (h : nd K p c) : nd (bcut K i) p c := nd_cut (nd_cut (nd_cut h))
theorem nd_mks (h : nd K p c) : nd (mks K x y) p c := nd_push (nd_push (nd_push h))
theorem nd_spairs (h : nd K p c) : nd (spairs K x y) p c := nd_push (nd_push (nd_cut h))
theorem nadd_1 : (nadd K p q).1 = K.1 := by unfold nadd; split <;> rfl
theorem nd_nadd {s t : Nat} (h : nd K p c) : nd (nadd K s t) p c := by unfold nd; rw [nadd_1]; exact h
theorem nd_wput (h : nd K p c) : nd (wput K x) p c := by unfold wput; split <;> exact h
theorem qok_of {K K' : cp_K} (h : qok K) (e1 : K'.2.2.1 21 = K.2.2.1 21) (e2 : K'.2.1 21 1 = K.2.1 21 1) (e3 : K'.2.1 1 = K.2.1 1) : qok K' := by
  unfold qok at *
  rw [e1, e2, e3]
  exact h
theorem nadd_i (h : q ≠ p) : (nadd K p c).2.1 q = K.2.1 q := by
  unfold nadd
  split <;> simp only [kI_i, kP_i, cp_up_ne h]
theorem nadd_r (h : q ≠ p) (h2 : ¬ K.2.2.1 p 5 = 0 → q ≠ K.2.2.1 p 5) : (nadd K p c).2.2.1 q = K.2.2.1 q := by
  unfold nadd
  split
  · simp only [kI_r, kP_r, cp_up_ne h]
  · next h0 => simp only [kI_r, kP_r, cp_up_ne h, cp_up_ne (h2 h0)]
theorem qok_nadd {t : Nat} (h : qok K) (h1 : nd K p 9) (h2 : ¬ K.2.2.1 p 5 = 0 → nd K (K.2.2.1 p 5) 9) : qok (nadd K p t) := by
  have e1 := h1.1
  refine qok_of h (nadd_r (by omega) (fun hn => ?_)) ?_ ?_
  · have := (h2 hn).1; omega
  · rw [nadd_i (by omega)]
  · rw [nadd_i (by omega)]
theorem ninit_i (h : q ≠ p) : (ninit K p x y z).2.1 q = K.2.1 q := by unfold ninit; simp only [kI_i, kP_i, cp_up_ne h]
theorem ninit_r (h : q ≠ p) : (ninit K p x y z).2.2.1 q = K.2.2.1 q := by unfold ninit; simp only [kI_r, kP_r, cp_up_ne h]
theorem qok_ninit (h : qok K) (h1 : nd K p 9) : qok (ninit K p x y z) := by
  have := h1.1
  exact qok_of h (ninit_r (by omega)) (by rw [ninit_i (by omega)]) (ninit_i (by omega))
end CPND
def wp_B_pushUnnamed_0 (D : Nat) (o : cp_G → cp_O) (K' K : cp_K) (x1 : Int32) : Prop := (rsz K 15 < k_lim 15 ∧ rsz K 17 < k_lim 17 ∧ rsz K 19 < k_lim 19) ∧ (o = (fun _ => .inl none) ∧ K' = (bpush K 0 x1 (-1)))
theorem b_B_pushUnnamed_0 {D : Nat} {o : cp_G → cp_O} {K' K : cp_K} {x1 : Int32} (w : wp_B_pushUnnamed_0 D o K' K x1) : JC (D + 7) m_B_pushUnnamed o K' 0 (fun G => [(0, .ref (cp_b G + 14)), (1, .int x1)]) (fun _ => []) K := by
  unfold wp_B_pushUnnamed_0 at w
  intro G H d n0 z0 hd
  show kV G H m_B_pushUnnamed d n0 z0 (o G) K' 0 [(0, .ref (cp_b G + 14)), (1, .int x1)] [] K
  refine kv_p (fun _ _ _ _ _ _ v => vv_aload_n (pc := 0) d_B_pushUnnamed_0 rfl v) ?_
  refine kv_p (fun _ _ _ _ _ _ v => vv_iconst (pc := 1) (v := 0) d_B_pushUnnamed_1 rfl v) ?_
  refine kv_p (fun _ _ _ _ _ _ v => vv_iload_n (pc := 2) d_B_pushUnnamed_2 rfl v) ?_
  refine kv_p (fun _ _ _ _ _ _ v => vv_iconst (pc := 3) (v := (-1)) d_B_pushUnnamed_3 rfl v) ?_
  obtain ⟨b1, w⟩ := w
  refine kw_cv (pc := 4) (As := [.int 0, .int x1, .int (-1)]) (As0 := (fun G => [.ref (cp_b G + 14), .int 0, .int x1, .int (-1)])) d_B_pushUnnamed_4 (C_Bpush b1) rfl k_B_push ml_B_33 (Or.inl ⟨by decide, rfl⟩) (by omega) (Nat.le_of_ble_eq_true rfl) ?_
  obtain ⟨rfl, rfl⟩ := w
  exact kv_e (fun _ _ => vv_vret (pc := 7) d_B_pushUnnamed_7 rfl)
theorem c_B_pushUnnamed {D : Nat} {o : cp_G → Option Value} {K' K : cp_K} {x1 : Int32} (w : wp_B_pushUnnamed_0 D (fun G => .inl (o G)) K' K x1) : KC (D + 7) m_B_pushUnnamed (fun G => [.ref (cp_b G + 14), .int x1]) K o K' := KC.of2 rfl (fun G => by exact ⟨Nat.le_of_ble_eq_true rfl, rfl⟩) (b_B_pushUnnamed_0 w)
def wp_V_makeHole_0 (D : Nat) (o : cp_G → cp_O) (K' K : cp_K) : Prop := rsz K 7 + 2 < k_lim 7 ∧ (o = (fun _ => .inl (some (.int (nI (rsz K 7))))) ∧ K' = (mks K 4 (-1)))
theorem b_V_makeHole_0 {D : Nat} {o : cp_G → cp_O} {K' K : cp_K} (w : wp_V_makeHole_0 D o K' K) : JC (D + 7) m_V_makeHole o K' 0 (fun G => [(0, .ref (cp_b G + 6))]) (fun _ => []) K := by
  unfold wp_V_makeHole_0 at w
  intro G H d n0 z0 hd
  show kV G H m_V_makeHole d n0 z0 (o G) K' 0 [(0, .ref (cp_b G + 6))] [] K
  refine kv_p (fun _ _ _ _ _ _ v => vv_aload_n (pc := 0) d_V_makeHole_0 rfl v) ?_
  refine kv_p (fun _ _ _ _ _ _ v => vv_iconst (pc := 1) (v := 4) d_V_makeHole_1 rfl v) ?_
  refine kv_p (fun _ _ _ _ _ _ v => vv_iconst (pc := 2) (v := (-1)) d_V_makeHole_2 rfl v) ?_
  obtain ⟨b1, w⟩ := w
  refine kw_cv (pc := 3) (As := [.int 4, .int (-1)]) (As0 := (fun G => [.ref (cp_b G + 6), .int 4, .int (-1)])) d_V_makeHole_3 (C_VmakeSimple b1) rfl k_V_makeSimple ml_V_48 (Or.inl ⟨by decide, rfl⟩) (by omega) (Nat.le_of_ble_eq_true rfl) ?_
  obtain ⟨rfl, rfl⟩ := w
  exact kv_e (fun _ _ => vv_iret (pc := 6) d_V_makeHole_6 rfl)
theorem c_V_makeHole {D : Nat} {o : cp_G → Option Value} {K' K : cp_K} (w : wp_V_makeHole_0 D (fun G => .inl (o G)) K' K) : KC (D + 7) m_V_makeHole (fun G => [.ref (cp_b G + 6)]) K o K' := KC.of2 rfl (fun G => by exact ⟨Nat.le_of_ble_eq_true rfl, rfl⟩) (b_V_makeHole_0 w)
def wp_V_makeName_0 (D : Nat) (o : cp_G → cp_O) (K' K : cp_K) : Prop := rsz K 7 + 2 < k_lim 7 ∧ (o = (fun _ => .inl (some (.int (nI (rsz K 7))))) ∧ K' = (mks K 5 (nI (rsz K 7))))
theorem b_V_makeName_0 {D : Nat} {o : cp_G → cp_O} {K' K : cp_K} (w : wp_V_makeName_0 D o K' K) : JC (D + 7) m_V_makeName o K' 0 (fun G => [(0, .ref (cp_b G + 6))]) (fun _ => []) K := by
  unfold wp_V_makeName_0 at w
  intro G H d n0 z0 hd
  show kV G H m_V_makeName d n0 z0 (o G) K' 0 [(0, .ref (cp_b G + 6))] [] K
  refine kv_p (fun _ _ _ _ _ _ v => vv_aload_n (pc := 0) d_V_makeName_0 rfl v) ?_
  refine kv_p (fun _ _ _ _ _ _ v => vv_iconst (pc := 1) (v := 5) d_V_makeName_1 rfl v) ?_
  refine kv_p (fun _ _ _ _ _ _ v => vv_aload_n (pc := 2) d_V_makeName_2 rfl v) ?_
  refine kw_gf (pc := 3) 7 d_V_makeName_3 fl_V_14 (Or.inl ⟨by decide, rfl⟩) rfl (by decide) ?_
  refine kw_cr (pc := 6) (As := []) (As0 := (fun G => [.ref (cp_b G + 7)])) d_V_makeName_6 (K_size (by decide)) rfl k_R_size ml_V_41 (by decide) (by omega) (Nat.le_of_ble_eq_true rfl) ?_
  obtain ⟨b1, w⟩ := w
  refine kw_cv (pc := 9) (As := [.int 5, .int (nI (rsz K 7))]) (As0 := (fun G => [.ref (cp_b G + 6), .int 5, .int (nI (rsz K 7))])) d_V_makeName_9 (C_VmakeSimple b1) rfl k_V_makeSimple ml_V_48 (Or.inl ⟨by decide, rfl⟩) (by omega) (Nat.le_of_ble_eq_true rfl) ?_
  obtain ⟨rfl, rfl⟩ := w
  exact kv_e (fun _ _ => vv_iret (pc := 12) d_V_makeName_12 rfl)
theorem c_V_makeName {D : Nat} {o : cp_G → Option Value} {K' K : cp_K} (w : wp_V_makeName_0 D (fun G => .inl (o G)) K' K) : KC (D + 7) m_V_makeName (fun G => [.ref (cp_b G + 6)]) K o K' := KC.of2 rfl (fun G => by exact ⟨Nat.le_of_ble_eq_true rfl, rfl⟩) (b_V_makeName_0 w)
def wp_Q_leaf_0 (D : Nat) (o : cp_G → cp_O) (K' K : cp_K) (x1 : Int32) (x2 : Int32) : Prop := (o = (fun G => .inl (some (va_rf (kr G K.1.1)))) ∧ K' = (kI (ninit (kN K 9) K.1.1 x1 x2 ((kN K 9).2.1 21 2)) 21 2 (((ninit (kN K 9) K.1.1 x1 x2 ((kN K 9).2.1 21 2)).2.1 21 2) + 1)))
theorem b_Q_leaf_0 {D : Nat} {o : cp_G → cp_O} {K' K : cp_K} {x1 : Int32} {x2 : Int32} (w : wp_Q_leaf_0 D o K' K x1 x2) : JC (D + 7) m_Q_leaf o K' 0 (fun G => [(0, .ref (cp_b G + 21)), (1, .int x1), (2, .int x2)]) (fun _ => []) K := by
  unfold wp_Q_leaf_0 at w
  intro G H d n0 z0 hd
  show kV G H m_Q_leaf d n0 z0 (o G) K' 0 [(0, .ref (cp_b G + 21)), (1, .int x1), (2, .int x2)] [] K
  refine kv_86 (fun h1 => ?_)
  refine kw_new (pc := 0) (N := 7) d_Q_leaf_0 cp_ok9 cl_Q_36 rfl (by decide) kdef9 ?_
  refine kv_p (fun _ _ _ _ _ _ v => vv_dup (pc := 3) d_Q_leaf_3 (kr_cat _) v) ?_
  refine kv_p (fun _ _ _ _ _ _ v => vv_iload_n (pc := 4) d_Q_leaf_4 rfl v) ?_
  refine kv_p (fun _ _ _ _ _ _ v => vv_iload_n (pc := 5) d_Q_leaf_5 rfl v) ?_
  refine kv_p (fun _ _ _ _ _ _ v => vv_aload_n (pc := 6) d_Q_leaf_6 rfl v) ?_
  refine kw_gi (pc := 7) d_Q_leaf_7 fl_Q_19 (Or.inl ⟨by decide, rfl⟩) rfl rfl ?_
  refine kw_ci (pc := 10) (As := [.int x1, .int x2, .int ((kN K 9).2.1 21 2)]) (As0 := (fun G => [va_rf (kr G K.1.1), .int x1, .int x2, .int ((kN K 9).2.1 21 2)])) d_Q_leaf_10 (C_Ninit (nd_self h1)) rfl k_N_init ml_Q_38 (nd_self h1) (by omega) (by cases kr G K.1.1 <;> exact Nat.le_of_ble_eq_true rfl) ?_
  refine kv_p (fun _ _ _ _ _ _ v => vv_astore_n (pc := 13) d_Q_leaf_13 (cp_isr_rf _) (Nat.le_of_ble_eq_true rfl) v) ?_
  refine kv_p (fun _ _ _ _ _ _ v => vv_aload_n (pc := 14) d_Q_leaf_14 rfl v) ?_
  refine kv_p (fun _ _ _ _ _ _ v => vv_dup (pc := 15) d_Q_leaf_15 rfl v) ?_
  refine kw_gi (pc := 16) d_Q_leaf_16 fl_Q_19 (Or.inl ⟨by decide, rfl⟩) rfl rfl ?_
  refine kv_p (fun _ _ _ _ _ _ v => vv_iconst (pc := 19) (v := 1) d_Q_leaf_19 rfl v) ?_
  refine kv_p (fun _ _ _ _ _ _ v => vv_iadd (pc := 20) d_Q_leaf_20 v) ?_
  refine kw_pi (pc := 21) d_Q_leaf_21 fl_Q_19 (Or.inl ⟨by decide, rfl⟩) rfl rfl rfl rfl rfl ?_
  refine kv_p (fun _ _ _ _ _ _ v => vv_aload_nr (pc := 24) d_Q_leaf_24 (cp_isr_rf _) rfl v) ?_
  obtain ⟨rfl, rfl⟩ := w
  exact kv_e (fun _ _ => vv_aret (pc := 25) d_Q_leaf_25 rfl (Or.inl ⟨_, rfl⟩) (cp_isr_rf _))
theorem c_Q_leaf {D : Nat} {o : cp_G → Option Value} {K' K : cp_K} {x1 : Int32} {x2 : Int32} (w : wp_Q_leaf_0 D (fun G => .inl (o G)) K' K x1 x2) : KC (D + 7) m_Q_leaf (fun G => [.ref (cp_b G + 21), .int x1, .int x2]) K o K' := KC.of2 rfl (fun G => by exact ⟨Nat.le_of_ble_eq_true rfl, rfl⟩) (b_Q_leaf_0 w)
def wp_Q_take_0 (D : Nat) (o : cp_G → cp_O) (K' K : cp_K) (x1 : Int32) : Prop := qok K ∧ ((¬ ((qpk K) : Int32) = x1 → (o = (fun _ => .inl (some (.int 0))) ∧ K' = K)) ∧ (((qpk K) : Int32) = x1 → (o = (fun _ => .inl (some (.int 1))) ∧ K' = (kI K 21 2 ((K.2.1 21 2) + 1)))))
theorem b_Q_take_0 {D : Nat} {o : cp_G → cp_O} {K' K : cp_K} {x1 : Int32} (w : wp_Q_take_0 D o K' K x1) : JC (D + 7) m_Q_take o K' 0 (fun G => [(0, .ref (cp_b G + 21)), (1, .int x1)]) (fun _ => []) K := by
  unfold wp_Q_take_0 at w
  intro G H d n0 z0 hd
  show kV G H m_Q_take d n0 z0 (o G) K' 0 [(0, .ref (cp_b G + 21)), (1, .int x1)] [] K
  refine kv_p (fun _ _ _ _ _ _ v => vv_aload_n (pc := 0) d_Q_take_0 rfl v) ?_
  obtain ⟨b1, w⟩ := w
  refine kw_cv (pc := 1) (As := []) (As0 := (fun G => [.ref (cp_b G + 21)])) d_Q_take_1 (C_Qpeek b1) rfl k_Q_peek ml_Q_53 (Or.inl ⟨by decide, rfl⟩) (by omega) (Nat.le_of_ble_eq_true rfl) ?_
  refine kv_p (fun _ _ _ _ _ _ v => vv_iload_n (pc := 4) d_Q_take_4 rfl v) ?_
  by_cases hc : ((qpk K) : Int32) = x1
  · replace w := w.2 hc
    refine kv_p (fun _ _ _ _ _ _ v => vv_icmp_ne (pc := 5) (tgt := 12) d_Q_take_5 rfl (fun hn => absurd hc hn) (fun _ => v)) ?_
    refine kv_p (fun _ _ _ _ _ _ v => vv_iconst (pc := 8) (v := 1) d_Q_take_8 rfl v) ?_
    refine kv_p (fun _ _ _ _ _ _ v => vv_goto (pc := 9) (tgt := 13) d_Q_take_9 rfl v) ?_
    refine kv_p (fun _ _ _ _ _ _ v => vv_istore_n (pc := 13) d_Q_take_13 (Nat.le_of_ble_eq_true rfl) v) ?_
    refine kv_p (fun _ _ _ _ _ _ v => vv_iload_n (pc := 14) d_Q_take_14 rfl v) ?_
    refine kv_p (fun _ _ _ _ _ _ v => vv_if_eq (pc := 15) (tgt := 28) d_Q_take_15 rfl (fun hn => absurd hn (by decide)) (fun _ => v)) ?_
    refine kv_p (fun _ _ _ _ _ _ v => vv_aload_n (pc := 18) d_Q_take_18 rfl v) ?_
    refine kv_p (fun _ _ _ _ _ _ v => vv_dup (pc := 19) d_Q_take_19 rfl v) ?_
    refine kw_gi (pc := 20) d_Q_take_20 fl_Q_19 (Or.inl ⟨by decide, rfl⟩) rfl rfl ?_
    refine kv_p (fun _ _ _ _ _ _ v => vv_iconst (pc := 23) (v := 1) d_Q_take_23 rfl v) ?_
    refine kv_p (fun _ _ _ _ _ _ v => vv_iadd (pc := 24) d_Q_take_24 v) ?_
    refine kw_pi (pc := 25) d_Q_take_25 fl_Q_19 (Or.inl ⟨by decide, rfl⟩) rfl rfl rfl rfl rfl ?_
    refine kv_p (fun _ _ _ _ _ _ v => vv_iload_n (pc := 28) d_Q_take_28 rfl v) ?_
    obtain ⟨rfl, rfl⟩ := w
    exact kv_e (fun _ _ => vv_zret (pc := 29) d_Q_take_29 rfl rfl)
  · replace w := w.1 hc
    refine kv_p (fun _ _ _ _ _ _ v => vv_icmp_ne (pc := 5) (tgt := 12) d_Q_take_5 rfl (fun _ => v) (fun hn => absurd hn hc)) ?_
    refine kv_p (fun _ _ _ _ _ _ v => vv_iconst (pc := 12) (v := 0) d_Q_take_12 rfl v) ?_
    refine kv_p (fun _ _ _ _ _ _ v => vv_istore_n (pc := 13) d_Q_take_13 (Nat.le_of_ble_eq_true rfl) v) ?_
    refine kv_p (fun _ _ _ _ _ _ v => vv_iload_n (pc := 14) d_Q_take_14 rfl v) ?_
    refine kv_p (fun _ _ _ _ _ _ v => vv_if_eq (pc := 15) (tgt := 28) d_Q_take_15 rfl (fun _ => v) (fun hn => absurd (by decide) hn)) ?_
    refine kv_p (fun _ _ _ _ _ _ v => vv_iload_n (pc := 28) d_Q_take_28 rfl v) ?_
    obtain ⟨rfl, rfl⟩ := w
    exact kv_e (fun _ _ => vv_zret (pc := 29) d_Q_take_29 rfl rfl)
theorem c_Q_take {D : Nat} {o : cp_G → Option Value} {K' K : cp_K} {x1 : Int32} (w : wp_Q_take_0 D (fun G => .inl (o G)) K' K x1) : KC (D + 7) m_Q_take (fun G => [.ref (cp_b G + 21), .int x1]) K o K' := KC.of2 rfl (fun G => by exact ⟨Nat.le_of_ble_eq_true rfl, rfl⟩) (b_Q_take_0 w)
def wp_U_areNumbers_0 (D : Nat) (o : cp_G → cp_O) (K' K : cp_K) (x1 : Int32) (x2 : Int32) : Prop := (((x1 : Int32) = (-1) → (o = (fun _ => .inl (some (.int 0))) ∧ K' = K)) ∧ (¬ (x1 : Int32) = (-1) → (((x2 : Int32) = (-1) → (o = (fun _ => .inl (some (.int 0))) ∧ K' = K)) ∧ (¬ (x2 : Int32) = (-1) → ((¬ ((rget K 7 x1) : Int32) = 1 → (o = (fun _ => .inl (some (.int 0))) ∧ K' = K)) ∧ (((rget K 7 x1) : Int32) = 1 → ((¬ ((rget K 7 x2) : Int32) = 1 → (o = (fun _ => .inl (some (.int 0))) ∧ K' = K)) ∧ (((rget K 7 x2) : Int32) = 1 → (o = (fun _ => .inl (some (.int 1))) ∧ K' = K)))))))))
theorem b_U_areNumbers_0 {D : Nat} {o : cp_G → cp_O} {K' K : cp_K} {x1 : Int32} {x2 : Int32} (w : wp_U_areNumbers_0 D o K' K x1 x2) : JC (D + 7) m_U_areNumbers o K' 0 (fun G => [(0, .ref (cp_b G + 23)), (1, .int x1), (2, .int x2)]) (fun _ => []) K := by
  unfold wp_U_areNumbers_0 at w
  intro G H d n0 z0 hd
  show kV G H m_U_areNumbers d n0 z0 (o G) K' 0 [(0, .ref (cp_b G + 23)), (1, .int x1), (2, .int x2)] [] K
  refine kv_p (fun _ _ _ _ _ _ v => vv_iload_n (pc := 0) d_U_areNumbers_0 rfl v) ?_
  refine kv_p (fun _ _ _ _ _ _ v => vv_iconst (pc := 1) (v := (-1)) d_U_areNumbers_1 rfl v) ?_
  by_cases hc : (x1 : Int32) = (-1)
  · replace w := w.1 hc
    refine kv_p (fun _ _ _ _ _ _ v => vv_icmp_eq (pc := 2) (tgt := 38) d_U_areNumbers_2 rfl (fun _ => v) (fun hn => absurd hc hn)) ?_
    refine kv_p (fun _ _ _ _ _ _ v => vv_iconst (pc := 38) (v := 0) d_U_areNumbers_38 rfl v) ?_
    obtain ⟨rfl, rfl⟩ := w
    exact kv_e (fun _ _ => vv_zret (pc := 39) d_U_areNumbers_39 rfl rfl)
  · replace w := w.2 hc
    refine kv_p (fun _ _ _ _ _ _ v => vv_icmp_eq (pc := 2) (tgt := 38) d_U_areNumbers_2 rfl (fun hn => absurd hn hc) (fun _ => v)) ?_
    refine kv_p (fun _ _ _ _ _ _ v => vv_iload_n (pc := 5) d_U_areNumbers_5 rfl v) ?_
    refine kv_p (fun _ _ _ _ _ _ v => vv_iconst (pc := 6) (v := (-1)) d_U_areNumbers_6 rfl v) ?_
    by_cases hc : (x2 : Int32) = (-1)
    · replace w := w.1 hc
      refine kv_p (fun _ _ _ _ _ _ v => vv_icmp_eq (pc := 7) (tgt := 38) d_U_areNumbers_7 rfl (fun _ => v) (fun hn => absurd hc hn)) ?_
      refine kv_p (fun _ _ _ _ _ _ v => vv_iconst (pc := 38) (v := 0) d_U_areNumbers_38 rfl v) ?_
      obtain ⟨rfl, rfl⟩ := w
      exact kv_e (fun _ _ => vv_zret (pc := 39) d_U_areNumbers_39 rfl rfl)
    · replace w := w.2 hc
      refine kv_p (fun _ _ _ _ _ _ v => vv_icmp_eq (pc := 7) (tgt := 38) d_U_areNumbers_7 rfl (fun hn => absurd hn hc) (fun _ => v)) ?_
      refine kv_p (fun _ _ _ _ _ _ v => vv_aload_n (pc := 10) d_U_areNumbers_10 rfl v) ?_
      refine kw_gf (pc := 11) 6 d_U_areNumbers_11 fl_U_15 (Or.inl ⟨by decide, rfl⟩) rfl (by decide) ?_
      refine kv_p (fun _ _ _ _ _ _ v => vv_iload_n (pc := 14) d_U_areNumbers_14 rfl v) ?_
      refine kw_cv (pc := 15) (As := [.int x1]) (As0 := (fun G => [.ref (cp_b G + 6), .int x1])) d_U_areNumbers_15 (C_VsortOf) rfl k_V_sortOf ml_U_139 (Or.inl ⟨by decide, rfl⟩) (by omega) (Nat.le_of_ble_eq_true rfl) ?_
      refine kv_p (fun _ _ _ _ _ _ v => vv_iconst (pc := 18) (v := 1) d_U_areNumbers_18 rfl v) ?_
      by_cases hc : ((rget K 7 x1) : Int32) = 1
      · replace w := w.2 hc
        refine kv_p (fun _ _ _ _ _ _ v => vv_icmp_ne (pc := 19) (tgt := 38) d_U_areNumbers_19 rfl (fun hn => absurd hc hn) (fun _ => v)) ?_
        refine kv_p (fun _ _ _ _ _ _ v => vv_aload_n (pc := 22) d_U_areNumbers_22 rfl v) ?_
        refine kw_gf (pc := 23) 6 d_U_areNumbers_23 fl_U_15 (Or.inl ⟨by decide, rfl⟩) rfl (by decide) ?_
        refine kv_p (fun _ _ _ _ _ _ v => vv_iload_n (pc := 26) d_U_areNumbers_26 rfl v) ?_
        refine kw_cv (pc := 27) (As := [.int x2]) (As0 := (fun G => [.ref (cp_b G + 6), .int x2])) d_U_areNumbers_27 (C_VsortOf) rfl k_V_sortOf ml_U_139 (Or.inl ⟨by decide, rfl⟩) (by omega) (Nat.le_of_ble_eq_true rfl) ?_
        refine kv_p (fun _ _ _ _ _ _ v => vv_iconst (pc := 30) (v := 1) d_U_areNumbers_30 rfl v) ?_
        by_cases hc : ((rget K 7 x2) : Int32) = 1
        · replace w := w.2 hc
          refine kv_p (fun _ _ _ _ _ _ v => vv_icmp_ne (pc := 31) (tgt := 38) d_U_areNumbers_31 rfl (fun hn => absurd hc hn) (fun _ => v)) ?_
          refine kv_p (fun _ _ _ _ _ _ v => vv_iconst (pc := 34) (v := 1) d_U_areNumbers_34 rfl v) ?_
          refine kv_p (fun _ _ _ _ _ _ v => vv_goto (pc := 35) (tgt := 39) d_U_areNumbers_35 rfl v) ?_
          obtain ⟨rfl, rfl⟩ := w
          exact kv_e (fun _ _ => vv_zret (pc := 39) d_U_areNumbers_39 rfl rfl)
        · replace w := w.1 hc
          refine kv_p (fun _ _ _ _ _ _ v => vv_icmp_ne (pc := 31) (tgt := 38) d_U_areNumbers_31 rfl (fun _ => v) (fun hn => absurd hn hc)) ?_
          refine kv_p (fun _ _ _ _ _ _ v => vv_iconst (pc := 38) (v := 0) d_U_areNumbers_38 rfl v) ?_
          obtain ⟨rfl, rfl⟩ := w
          exact kv_e (fun _ _ => vv_zret (pc := 39) d_U_areNumbers_39 rfl rfl)
      · replace w := w.1 hc
        refine kv_p (fun _ _ _ _ _ _ v => vv_icmp_ne (pc := 19) (tgt := 38) d_U_areNumbers_19 rfl (fun _ => v) (fun hn => absurd hn hc)) ?_
        refine kv_p (fun _ _ _ _ _ _ v => vv_iconst (pc := 38) (v := 0) d_U_areNumbers_38 rfl v) ?_
        obtain ⟨rfl, rfl⟩ := w
        exact kv_e (fun _ _ => vv_zret (pc := 39) d_U_areNumbers_39 rfl rfl)
theorem c_U_areNumbers {D : Nat} {o : cp_G → Option Value} {K' K : cp_K} {x1 : Int32} {x2 : Int32} (w : wp_U_areNumbers_0 D (fun G => .inl (o G)) K' K x1 x2) : KC (D + 7) m_U_areNumbers (fun G => [.ref (cp_b G + 23), .int x1, .int x2]) K o K' := KC.of2 rfl (fun G => by exact ⟨Nat.le_of_ble_eq_true rfl, rfl⟩) (b_U_areNumbers_0 w)
def wp_U_isLess_0 (D : Nat) (o : cp_G → cp_O) (K' K : cp_K) (x1 : Int32) (x2 : Int32) : Prop := (((rget K 7 (x2 + 1)) ≤ ((rget K 7 (x1 + 1)) : Int32) → (o = (fun _ => .inl (some (.int 0))) ∧ K' = K)) ∧ (¬ (rget K 7 (x2 + 1)) ≤ ((rget K 7 (x1 + 1)) : Int32) → (o = (fun _ => .inl (some (.int 1))) ∧ K' = K)))
theorem b_U_isLess_0 {D : Nat} {o : cp_G → cp_O} {K' K : cp_K} {x1 : Int32} {x2 : Int32} (w : wp_U_isLess_0 D o K' K x1 x2) : JC (D + 7) m_U_isLess o K' 0 (fun G => [(0, .ref (cp_b G + 23)), (1, .int x1), (2, .int x2)]) (fun _ => []) K := by
  unfold wp_U_isLess_0 at w
  intro G H d n0 z0 hd
  show kV G H m_U_isLess d n0 z0 (o G) K' 0 [(0, .ref (cp_b G + 23)), (1, .int x1), (2, .int x2)] [] K
  refine kv_p (fun _ _ _ _ _ _ v => vv_aload_n (pc := 0) d_U_isLess_0 rfl v) ?_
  refine kw_gf (pc := 1) 6 d_U_isLess_1 fl_U_15 (Or.inl ⟨by decide, rfl⟩) rfl (by decide) ?_
  refine kv_p (fun _ _ _ _ _ _ v => vv_iload_n (pc := 4) d_U_isLess_4 rfl v) ?_
  refine kw_cv (pc := 5) (As := [.int x1]) (As0 := (fun G => [.ref (cp_b G + 6), .int x1])) d_U_isLess_5 (C_VdatumOf) rfl k_V_datumOf ml_U_123 (Or.inl ⟨by decide, rfl⟩) (by omega) (Nat.le_of_ble_eq_true rfl) ?_
  refine kv_p (fun _ _ _ _ _ _ v => vv_aload_n (pc := 8) d_U_isLess_8 rfl v) ?_
  refine kw_gf (pc := 9) 6 d_U_isLess_9 fl_U_15 (Or.inl ⟨by decide, rfl⟩) rfl (by decide) ?_
  refine kv_p (fun _ _ _ _ _ _ v => vv_iload_n (pc := 12) d_U_isLess_12 rfl v) ?_
  refine kw_cv (pc := 13) (As := [.int x2]) (As0 := (fun G => [.ref (cp_b G + 6), .int x2])) d_U_isLess_13 (C_VdatumOf) rfl k_V_datumOf ml_U_123 (Or.inl ⟨by decide, rfl⟩) (by omega) (Nat.le_of_ble_eq_true rfl) ?_
  by_cases hc : (rget K 7 (x2 + 1)) ≤ ((rget K 7 (x1 + 1)) : Int32)
  · replace w := w.1 hc
    refine kv_p (fun _ _ _ _ _ _ v => vv_icmp_ge (pc := 16) (tgt := 23) d_U_isLess_16 rfl (fun _ => v) (fun hn => absurd hc hn)) ?_
    refine kv_p (fun _ _ _ _ _ _ v => vv_iconst (pc := 23) (v := 0) d_U_isLess_23 rfl v) ?_
    obtain ⟨rfl, rfl⟩ := w
    exact kv_e (fun _ _ => vv_iret (pc := 24) d_U_isLess_24 rfl)
  · replace w := w.2 hc
    refine kv_p (fun _ _ _ _ _ _ v => vv_icmp_ge (pc := 16) (tgt := 23) d_U_isLess_16 rfl (fun hn => absurd hn hc) (fun _ => v)) ?_
    refine kv_p (fun _ _ _ _ _ _ v => vv_iconst (pc := 19) (v := 1) d_U_isLess_19 rfl v) ?_
    refine kv_p (fun _ _ _ _ _ _ v => vv_goto (pc := 20) (tgt := 24) d_U_isLess_20 rfl v) ?_
    obtain ⟨rfl, rfl⟩ := w
    exact kv_e (fun _ _ => vv_iret (pc := 24) d_U_isLess_24 rfl)
theorem c_U_isLess {D : Nat} {o : cp_G → Option Value} {K' K : cp_K} {x1 : Int32} {x2 : Int32} (w : wp_U_isLess_0 D (fun G => .inl (o G)) K' K x1 x2) : KC (D + 7) m_U_isLess (fun G => [.ref (cp_b G + 23), .int x1, .int x2]) K o K' := KC.of2 rfl (fun G => by exact ⟨Nat.le_of_ble_eq_true rfl, rfl⟩) (b_U_isLess_0 w)
def wp_U_fits_0 (D : Nat) (o : cp_G → cp_O) (K' K : cp_K) (p1 : Nat) (x2 : Int32) : Prop := nd K p1 9 ∧ ((((K.2.1 p1 0) : Int32) = 4 → (o = (fun _ => .inl (some (.int 1))) ∧ K' = K)) ∧ (¬ ((K.2.1 p1 0) : Int32) = 4 → ((¬ ((K.2.1 p1 0) : Int32) = (rget K 7 x2) → (o = (fun _ => .inl (some (.int 0))) ∧ K' = K)) ∧ (((K.2.1 p1 0) : Int32) = (rget K 7 x2) → ((¬ ((K.2.1 p1 1) : Int32) = (rget K 7 (x2 + 1)) → (o = (fun _ => .inl (some (.int 0))) ∧ K' = K)) ∧ (((K.2.1 p1 1) : Int32) = (rget K 7 (x2 + 1)) → (o = (fun _ => .inl (some (.int 1))) ∧ K' = K)))))))
theorem b_U_fits_0 {D : Nat} {o : cp_G → cp_O} {K' K : cp_K} {p1 : Nat} {x2 : Int32} (w : wp_U_fits_0 D o K' K p1 x2) : JC (D + 7) m_U_fits o K' 0 (fun G => [(0, .ref (cp_b G + 23)), (1, va_rf (kr G p1)), (2, .int x2)]) (fun _ => []) K := by
  unfold wp_U_fits_0 at w
  intro G H d n0 z0 hd
  show kV G H m_U_fits d n0 z0 (o G) K' 0 [(0, .ref (cp_b G + 23)), (1, va_rf (kr G p1)), (2, .int x2)] [] K
  refine kv_p (fun _ _ _ _ _ _ v => vv_aload_nr (pc := 0) d_U_fits_0 (cp_isr_rf _) rfl v) ?_
  obtain ⟨b1, w⟩ := w
  refine kw_giN (pc := 1) d_U_fits_1 fl_U_74 b1 rfl rfl ?_
  refine kv_p (fun _ _ _ _ _ _ v => vv_iconst (pc := 4) (v := 4) d_U_fits_4 rfl v) ?_
  by_cases hc : ((K.2.1 p1 0) : Int32) = 4
  · replace w := w.1 hc
    refine kv_p (fun _ _ _ _ _ _ v => vv_icmp_eq (pc := 5) (tgt := 38) d_U_fits_5 rfl (fun _ => v) (fun hn => absurd hc hn)) ?_
    refine kv_p (fun _ _ _ _ _ _ v => vv_iconst (pc := 38) (v := 1) d_U_fits_38 rfl v) ?_
    refine kv_p (fun _ _ _ _ _ _ v => vv_goto (pc := 39) (tgt := 43) d_U_fits_39 rfl v) ?_
    obtain ⟨rfl, rfl⟩ := w
    exact kv_e (fun _ _ => vv_zret (pc := 43) d_U_fits_43 rfl rfl)
  · replace w := w.2 hc
    refine kv_p (fun _ _ _ _ _ _ v => vv_icmp_eq (pc := 5) (tgt := 38) d_U_fits_5 rfl (fun hn => absurd hn hc) (fun _ => v)) ?_
    refine kv_p (fun _ _ _ _ _ _ v => vv_aload_nr (pc := 8) d_U_fits_8 (cp_isr_rf _) rfl v) ?_
    refine kw_giN (pc := 9) d_U_fits_9 fl_U_74 b1 rfl rfl ?_
    refine kv_p (fun _ _ _ _ _ _ v => vv_aload_n (pc := 12) d_U_fits_12 rfl v) ?_
    refine kw_gf (pc := 13) 6 d_U_fits_13 fl_U_15 (Or.inl ⟨by decide, rfl⟩) rfl (by decide) ?_
    refine kv_p (fun _ _ _ _ _ _ v => vv_iload_n (pc := 16) d_U_fits_16 rfl v) ?_
    refine kw_cv (pc := 17) (As := [.int x2]) (As0 := (fun G => [.ref (cp_b G + 6), .int x2])) d_U_fits_17 (C_VsortOf) rfl k_V_sortOf ml_U_139 (Or.inl ⟨by decide, rfl⟩) (by omega) (Nat.le_of_ble_eq_true rfl) ?_
    by_cases hc : ((K.2.1 p1 0) : Int32) = (rget K 7 x2)
    · replace w := w.2 hc
      refine kv_p (fun _ _ _ _ _ _ v => vv_icmp_ne (pc := 20) (tgt := 42) d_U_fits_20 rfl (fun hn => absurd hc hn) (fun _ => v)) ?_
      refine kv_p (fun _ _ _ _ _ _ v => vv_aload_nr (pc := 23) d_U_fits_23 (cp_isr_rf _) rfl v) ?_
      refine kw_giN (pc := 24) d_U_fits_24 fl_U_64 b1 rfl rfl ?_
      refine kv_p (fun _ _ _ _ _ _ v => vv_aload_n (pc := 27) d_U_fits_27 rfl v) ?_
      refine kw_gf (pc := 28) 6 d_U_fits_28 fl_U_15 (Or.inl ⟨by decide, rfl⟩) rfl (by decide) ?_
      refine kv_p (fun _ _ _ _ _ _ v => vv_iload_n (pc := 31) d_U_fits_31 rfl v) ?_
      refine kw_cv (pc := 32) (As := [.int x2]) (As0 := (fun G => [.ref (cp_b G + 6), .int x2])) d_U_fits_32 (C_VdatumOf) rfl k_V_datumOf ml_U_123 (Or.inl ⟨by decide, rfl⟩) (by omega) (Nat.le_of_ble_eq_true rfl) ?_
      by_cases hc : ((K.2.1 p1 1) : Int32) = (rget K 7 (x2 + 1))
      · replace w := w.2 hc
        refine kv_p (fun _ _ _ _ _ _ v => vv_icmp_ne (pc := 35) (tgt := 42) d_U_fits_35 rfl (fun hn => absurd hc hn) (fun _ => v)) ?_
        refine kv_p (fun _ _ _ _ _ _ v => vv_iconst (pc := 38) (v := 1) d_U_fits_38 rfl v) ?_
        refine kv_p (fun _ _ _ _ _ _ v => vv_goto (pc := 39) (tgt := 43) d_U_fits_39 rfl v) ?_
        obtain ⟨rfl, rfl⟩ := w
        exact kv_e (fun _ _ => vv_zret (pc := 43) d_U_fits_43 rfl rfl)
      · replace w := w.1 hc
        refine kv_p (fun _ _ _ _ _ _ v => vv_icmp_ne (pc := 35) (tgt := 42) d_U_fits_35 rfl (fun _ => v) (fun hn => absurd hn hc)) ?_
        refine kv_p (fun _ _ _ _ _ _ v => vv_iconst (pc := 42) (v := 0) d_U_fits_42 rfl v) ?_
        obtain ⟨rfl, rfl⟩ := w
        exact kv_e (fun _ _ => vv_zret (pc := 43) d_U_fits_43 rfl rfl)
    · replace w := w.1 hc
      refine kv_p (fun _ _ _ _ _ _ v => vv_icmp_ne (pc := 20) (tgt := 42) d_U_fits_20 rfl (fun _ => v) (fun hn => absurd hn hc)) ?_
      refine kv_p (fun _ _ _ _ _ _ v => vv_iconst (pc := 42) (v := 0) d_U_fits_42 rfl v) ?_
      obtain ⟨rfl, rfl⟩ := w
      exact kv_e (fun _ _ => vv_zret (pc := 43) d_U_fits_43 rfl rfl)
theorem c_U_fits {D : Nat} {o : cp_G → Option Value} {K' K : cp_K} {p1 : Nat} {x2 : Int32} (w : wp_U_fits_0 D (fun G => .inl (o G)) K' K p1 x2) : KC (D + 7) m_U_fits (fun G => [.ref (cp_b G + 23), va_rf (kr G p1), .int x2]) K o K' := KC.of2 rfl (fun G => by cases kr G p1 <;> exact ⟨Nat.le_of_ble_eq_true rfl, rfl⟩) (b_U_fits_0 w)
def wp_T_isStar_0 (D : Nat) (o : cp_G → cp_O) (K' K : cp_K) (x1 : Int32) : Prop := ((¬ ((rget K 7 x1) : Int32) = 3 → (o = (fun _ => .inl (some (.int 0))) ∧ K' = K)) ∧ (((rget K 7 x1) : Int32) = 3 → (o = (fun _ => .inl (some (.int 1))) ∧ K' = K)))
theorem b_T_isStar_0 {D : Nat} {o : cp_G → cp_O} {K' K : cp_K} {x1 : Int32} (w : wp_T_isStar_0 D o K' K x1) : JC (D + 7) m_T_isStar o K' 0 (fun G => [(0, .ref (cp_b G + 24)), (1, .int x1)]) (fun _ => []) K := by
  unfold wp_T_isStar_0 at w
  intro G H d n0 z0 hd
  show kV G H m_T_isStar d n0 z0 (o G) K' 0 [(0, .ref (cp_b G + 24)), (1, .int x1)] [] K
  refine kv_p (fun _ _ _ _ _ _ v => vv_aload_n (pc := 0) d_T_isStar_0 rfl v) ?_
  refine kw_gf (pc := 1) 6 d_T_isStar_1 fl_T_15 (Or.inl ⟨by decide, rfl⟩) rfl (by decide) ?_
  refine kv_p (fun _ _ _ _ _ _ v => vv_iload_n (pc := 4) d_T_isStar_4 rfl v) ?_
  refine kw_cv (pc := 5) (As := [.int x1]) (As0 := (fun G => [.ref (cp_b G + 6), .int x1])) d_T_isStar_5 (C_VsortOf) rfl k_V_sortOf ml_T_114 (Or.inl ⟨by decide, rfl⟩) (by omega) (Nat.le_of_ble_eq_true rfl) ?_
  refine kv_p (fun _ _ _ _ _ _ v => vv_iconst (pc := 8) (v := 3) d_T_isStar_8 rfl v) ?_
  by_cases hc : ((rget K 7 x1) : Int32) = 3
  · replace w := w.2 hc
    refine kv_p (fun _ _ _ _ _ _ v => vv_icmp_ne (pc := 9) (tgt := 16) d_T_isStar_9 rfl (fun hn => absurd hc hn) (fun _ => v)) ?_
    refine kv_p (fun _ _ _ _ _ _ v => vv_iconst (pc := 12) (v := 1) d_T_isStar_12 rfl v) ?_
    refine kv_p (fun _ _ _ _ _ _ v => vv_goto (pc := 13) (tgt := 17) d_T_isStar_13 rfl v) ?_
    obtain ⟨rfl, rfl⟩ := w
    exact kv_e (fun _ _ => vv_zret (pc := 17) d_T_isStar_17 rfl rfl)
  · replace w := w.1 hc
    refine kv_p (fun _ _ _ _ _ _ v => vv_icmp_ne (pc := 9) (tgt := 16) d_T_isStar_9 rfl (fun _ => v) (fun hn => absurd hn hc)) ?_
    refine kv_p (fun _ _ _ _ _ _ v => vv_iconst (pc := 16) (v := 0) d_T_isStar_16 rfl v) ?_
    obtain ⟨rfl, rfl⟩ := w
    exact kv_e (fun _ _ => vv_zret (pc := 17) d_T_isStar_17 rfl rfl)
theorem c_T_isStar {D : Nat} {o : cp_G → Option Value} {K' K : cp_K} {x1 : Int32} (w : wp_T_isStar_0 D (fun G => .inl (o G)) K' K x1) : KC (D + 7) m_T_isStar (fun G => [.ref (cp_b G + 24), .int x1]) K o K' := KC.of2 rfl (fun G => by exact ⟨Nat.le_of_ble_eq_true rfl, rfl⟩) (b_T_isStar_0 w)
def wp_T_noType_0 (D : Nat) (o : cp_G → cp_O) (K' K : cp_K) (x1 : Int32) : Prop := (o = (fun _ => .inl (some (.int (-1)))) ∧ K' = (kI K 24 6 x1))
theorem b_T_noType_0 {D : Nat} {o : cp_G → cp_O} {K' K : cp_K} {x1 : Int32} (w : wp_T_noType_0 D o K' K x1) : JC (D + 7) m_T_noType o K' 0 (fun G => [(0, .ref (cp_b G + 24)), (1, .int x1)]) (fun _ => []) K := by
  unfold wp_T_noType_0 at w
  intro G H d n0 z0 hd
  show kV G H m_T_noType d n0 z0 (o G) K' 0 [(0, .ref (cp_b G + 24)), (1, .int x1)] [] K
  refine kv_p (fun _ _ _ _ _ _ v => vv_aload_n (pc := 0) d_T_noType_0 rfl v) ?_
  refine kv_p (fun _ _ _ _ _ _ v => vv_iload_n (pc := 1) d_T_noType_1 rfl v) ?_
  refine kw_pi (pc := 2) d_T_noType_2 fl_T_35 (Or.inl ⟨by decide, rfl⟩) rfl rfl rfl rfl rfl ?_
  refine kv_p (fun _ _ _ _ _ _ v => vv_iconst (pc := 5) (v := (-1)) d_T_noType_5 rfl v) ?_
  obtain ⟨rfl, rfl⟩ := w
  exact kv_e (fun _ _ => vv_iret (pc := 6) d_T_noType_6 rfl)
theorem c_T_noType {D : Nat} {o : cp_G → Option Value} {K' K : cp_K} {x1 : Int32} (w : wp_T_noType_0 D (fun G => .inl (o G)) K' K x1) : KC (D + 7) m_T_noType (fun G => [.ref (cp_b G + 24), .int x1]) K o K' := KC.of2 rfl (fun G => by exact ⟨Nat.le_of_ble_eq_true rfl, rfl⟩) (b_T_noType_0 w)
def wp_I_know_0 (D : Nat) (o : cp_G → cp_O) (K' K : cp_K) (p1 : Nat) : Prop := nd K p1 9 ∧ (rsz K 15 < k_lim 15 ∧ rsz K 17 < k_lim 17 ∧ rsz K 19 < k_lim 19) ∧ (o = (fun _ => .inl none) ∧ K' = (bpush K (K.2.1 p1 1) (-1) (-1)))
theorem b_I_know_0 {D : Nat} {o : cp_G → cp_O} {K' K : cp_K} {p1 : Nat} (w : wp_I_know_0 D o K' K p1) : JC (D + 7) m_I_know o K' 0 (fun G => [(0, .ref (cp_b G + 25)), (1, va_rf (kr G p1))]) (fun _ => []) K := by
  unfold wp_I_know_0 at w
  intro G H d n0 z0 hd
  show kV G H m_I_know d n0 z0 (o G) K' 0 [(0, .ref (cp_b G + 25)), (1, va_rf (kr G p1))] [] K
  refine kv_p (fun _ _ _ _ _ _ v => vv_aload_n (pc := 0) d_I_know_0 rfl v) ?_
  refine kw_gf (pc := 1) 14 d_I_know_1 fl_I_15 (Or.inl ⟨by decide, rfl⟩) rfl (by decide) ?_
  refine kv_p (fun _ _ _ _ _ _ v => vv_aload_nr (pc := 4) d_I_know_4 (cp_isr_rf _) rfl v) ?_
  obtain ⟨b1, w⟩ := w
  refine kw_giN (pc := 5) d_I_know_5 fl_I_44 b1 rfl rfl ?_
  refine kv_p (fun _ _ _ _ _ _ v => vv_iconst (pc := 8) (v := (-1)) d_I_know_8 rfl v) ?_
  refine kv_p (fun _ _ _ _ _ _ v => vv_iconst (pc := 9) (v := (-1)) d_I_know_9 rfl v) ?_
  obtain ⟨b2, w⟩ := w
  refine kw_cv (pc := 10) (As := [.int (K.2.1 p1 1), .int (-1), .int (-1)]) (As0 := (fun G => [.ref (cp_b G + 14), .int (K.2.1 p1 1), .int (-1), .int (-1)])) d_I_know_10 (C_Bpush b2) rfl k_B_push ml_I_48 (Or.inl ⟨by decide, rfl⟩) (by omega) (Nat.le_of_ble_eq_true rfl) ?_
  obtain ⟨rfl, rfl⟩ := w
  exact kv_e (fun _ _ => vv_vret (pc := 13) d_I_know_13 rfl)
theorem c_I_know {D : Nat} {o : cp_G → Option Value} {K' K : cp_K} {p1 : Nat} (w : wp_I_know_0 D (fun G => .inl (o G)) K' K p1) : KC (D + 7) m_I_know (fun G => [.ref (cp_b G + 25), va_rf (kr G p1)]) K o K' := KC.of2 rfl (fun G => by cases kr G p1 <;> exact ⟨Nat.le_of_ble_eq_true rfl, rfl⟩) (b_I_know_0 w)
def wp_T_learnName_0 (D : Nat) (o : cp_G → cp_O) (K' K : cp_K) (x1 : Int32) : Prop := ∃ r3 T1, KC (D + 6) m_V_makeName (fun G => [.ref (cp_b G + 6)]) K (fun _ => some (.int r3)) T1 ∧ (rsz T1 15 < k_lim 15 ∧ rsz T1 17 < k_lim 17 ∧ rsz T1 19 < k_lim 19) ∧ (o = (fun _ => .inl none) ∧ K' = (kI (bpush T1 x1 r3 (T1.2.1 24 7)) 24 5 (nI (rsz (bpush T1 x1 r3 (T1.2.1 24 7)) 15))))
theorem b_T_learnName_0 {D : Nat} {o : cp_G → cp_O} {K' K : cp_K} {x1 : Int32} (w : wp_T_learnName_0 D o K' K x1) : JC (D + 7) m_T_learnName o K' 0 (fun G => [(0, .ref (cp_b G + 24)), (1, .int x1)]) (fun _ => []) K := by
  unfold wp_T_learnName_0 at w
  intro G H d n0 z0 hd
  show kV G H m_T_learnName d n0 z0 (o G) K' 0 [(0, .ref (cp_b G + 24)), (1, .int x1)] [] K
  refine kv_p (fun _ _ _ _ _ _ v => vv_aload_n (pc := 0) d_T_learnName_0 rfl v) ?_
  refine kw_gf (pc := 1) 14 d_T_learnName_1 fl_T_19 (Or.inl ⟨by decide, rfl⟩) rfl (by decide) ?_
  refine kv_p (fun _ _ _ _ _ _ v => vv_iload_n (pc := 4) d_T_learnName_4 rfl v) ?_
  refine kv_p (fun _ _ _ _ _ _ v => vv_aload_n (pc := 5) d_T_learnName_5 rfl v) ?_
  refine kw_gf (pc := 6) 6 d_T_learnName_6 fl_T_15 (Or.inl ⟨by decide, rfl⟩) rfl (by decide) ?_
  obtain ⟨r3, T1, c2, w⟩ := w
  refine kw_cv (pc := 9) (As := []) d_T_learnName_9 c2 rfl k_V_makeName ml_T_101 (Or.inl ⟨by decide, rfl⟩) (by omega) (Nat.le_of_ble_eq_true rfl) ?_
  refine kv_p (fun _ _ _ _ _ _ v => vv_aload_n (pc := 12) d_T_learnName_12 rfl v) ?_
  refine kw_gi (pc := 13) d_T_learnName_13 fl_T_38 (Or.inl ⟨by decide, rfl⟩) rfl rfl ?_
  obtain ⟨b4, w⟩ := w
  refine kw_cv (pc := 16) (As := [.int x1, .int r3, .int (T1.2.1 24 7)]) (As0 := (fun G => [.ref (cp_b G + 14), .int x1, .int r3, .int (T1.2.1 24 7)])) d_T_learnName_16 (C_Bpush b4) rfl k_B_push ml_T_107 (Or.inl ⟨by decide, rfl⟩) (by omega) (Nat.le_of_ble_eq_true rfl) ?_
  refine kv_p (fun _ _ _ _ _ _ v => vv_aload_n (pc := 19) d_T_learnName_19 rfl v) ?_
  refine kv_p (fun _ _ _ _ _ _ v => vv_aload_n (pc := 20) d_T_learnName_20 rfl v) ?_
  refine kw_gf (pc := 21) 14 d_T_learnName_21 fl_T_19 (Or.inl ⟨by decide, rfl⟩) rfl (by decide) ?_
  refine kw_cv (pc := 24) (As := []) (As0 := (fun G => [.ref (cp_b G + 14)])) d_T_learnName_24 (C_Bsize) rfl k_B_size ml_T_111 (Or.inl ⟨by decide, rfl⟩) (by omega) (Nat.le_of_ble_eq_true rfl) ?_
  refine kw_pi (pc := 27) d_T_learnName_27 fl_T_31 (Or.inl ⟨by decide, rfl⟩) rfl rfl rfl rfl rfl ?_
  obtain ⟨rfl, rfl⟩ := w
  exact kv_e (fun _ _ => vv_vret (pc := 30) d_T_learnName_30 rfl)
theorem c_T_learnName {D : Nat} {o : cp_G → Option Value} {K' K : cp_K} {x1 : Int32} (w : wp_T_learnName_0 D (fun G => .inl (o G)) K' K x1) : KC (D + 7) m_T_learnName (fun G => [.ref (cp_b G + 24), .int x1]) K o K' := KC.of2 rfl (fun G => by exact ⟨Nat.le_of_ble_eq_true rfl, rfl⟩) (b_T_learnName_0 w)
def wp_P_fault_0 (D : Nat) (o : cp_G → cp_O) (K' K : cp_K) : Prop := (o = (fun _ => .inl (some (.int ((-1) - (K.2.1 21 2))))) ∧ K' = K)
theorem b_P_fault_0 {D : Nat} {o : cp_G → cp_O} {K' K : cp_K} (w : wp_P_fault_0 D o K' K) : JC (D + 7) m_P_fault o K' 0 (fun G => [(0, .ref (cp_b G + 0))]) (fun _ => []) K := by
  unfold wp_P_fault_0 at w
  intro G H d n0 z0 hd
  show kV G H m_P_fault d n0 z0 (o G) K' 0 [(0, .ref (cp_b G + 0))] [] K
  refine kv_p (fun _ _ _ _ _ _ v => vv_iconst (pc := 0) (v := (-1)) d_P_fault_0 rfl v) ?_
  refine kv_p (fun _ _ _ _ _ _ v => vv_aload_n (pc := 1) d_P_fault_1 rfl v) ?_
  refine kw_gf (pc := 2) 21 d_P_fault_2 fl_P_47 (Or.inl ⟨by decide, rfl⟩) rfl (by decide) ?_
  refine kw_cv (pc := 5) (As := []) (As0 := (fun G => [.ref (cp_b G + 21)])) d_P_fault_5 (C_Qplace) rfl k_Q_place ml_P_219 (Or.inl ⟨by decide, rfl⟩) (by omega) (Nat.le_of_ble_eq_true rfl) ?_
  refine kv_p (fun _ _ _ _ _ _ v => vv_isub (pc := 8) d_P_fault_8 v) ?_
  obtain ⟨rfl, rfl⟩ := w
  exact kv_e (fun _ _ => vv_iret (pc := 9) d_P_fault_9 rfl)
theorem c_P_fault {D : Nat} {o : cp_G → Option Value} {K' K : cp_K} (w : wp_P_fault_0 D (fun G => .inl (o G)) K' K) : KC (D + 7) m_P_fault (fun G => [.ref (cp_b G + 0)]) K o K' := KC.of2 rfl (fun G => by exact ⟨Nat.le_of_ble_eq_true rfl, rfl⟩) (b_P_fault_0 w)
def wp_D_findConstant_0 (D : Nat) (o : cp_G → cp_O) (K' K : cp_K) (p1 : Nat) : Prop := nd K p1 9 ∧ (((dfind K (K.2.1 p1 1)) = (0 : Nat) → (o = (fun G => .inl (some (va_rf (kr G 0)))) ∧ K' = K)) ∧ (¬ (dfind K (K.2.1 p1 1)) = (0 : Nat) → nd K (dfind K (K.2.1 p1 1)) 10 ∧ ((¬ ((K.2.1 (dfind K (K.2.1 p1 1)) 1) : Int32) = 0 → (o = (fun G => .inl (some (va_rf (kr G 0)))) ∧ K' = K)) ∧ (((K.2.1 (dfind K (K.2.1 p1 1)) 1) : Int32) = 0 → ((¬ ((K.2.1 (dfind K (K.2.1 p1 1)) 2) : Int32) = (K.2.1 p1 3) → (o = (fun G => .inl (some (va_rf (kr G 0)))) ∧ K' = K)) ∧ (((K.2.1 (dfind K (K.2.1 p1 1)) 2) : Int32) = (K.2.1 p1 3) → (o = (fun G => .inl (some (va_rf (kr G (dfind K (K.2.1 p1 1)))))) ∧ K' = K)))))))
theorem b_D_findConstant_0 {D : Nat} {o : cp_G → cp_O} {K' K : cp_K} {p1 : Nat} (w : wp_D_findConstant_0 D o K' K p1) : JC (D + 7) m_D_findConstant o K' 0 (fun G => [(0, .ref (cp_b G + 3)), (1, va_rf (kr G p1))]) (fun _ => []) K := by
  unfold wp_D_findConstant_0 at w
  intro G H d n0 z0 hd
  show kV G H m_D_findConstant d n0 z0 (o G) K' 0 [(0, .ref (cp_b G + 3)), (1, va_rf (kr G p1))] [] K
  refine kv_p (fun _ _ _ _ _ _ v => vv_aload_n (pc := 0) d_D_findConstant_0 rfl v) ?_
  refine kv_p (fun _ _ _ _ _ _ v => vv_aload_nr (pc := 1) d_D_findConstant_1 (cp_isr_rf _) rfl v) ?_
  obtain ⟨b1, w⟩ := w
  refine kw_giN (pc := 2) d_D_findConstant_2 fl_D_25 b1 rfl rfl ?_
  refine kw_cv (pc := 5) (As := [.int (K.2.1 p1 1)]) (As0 := (fun G => [.ref (cp_b G + 3), .int (K.2.1 p1 1)])) d_D_findConstant_5 (C_Dfind) rfl k_D_find ml_D_30 (Or.inl ⟨by decide, rfl⟩) (by omega) (Nat.le_of_ble_eq_true rfl) ?_
  refine kv_p (fun _ _ _ _ _ _ v => vv_astore_n (pc := 8) d_D_findConstant_8 (cp_isr_rf _) (Nat.le_of_ble_eq_true rfl) v) ?_
  refine kw_lv (lv := [(2, va_rf (kr G (dfind K (K.2.1 p1 1)))), (0, .ref (cp_b G + 3)), (1, va_rf (kr G p1))]) (by cases kr G p1 <;> rfl) ?_
  refine kv_p (fun _ _ _ _ _ _ v => vv_aload_nr (pc := 9) d_D_findConstant_9 (cp_isr_rf _) rfl v) ?_
  refine kw_ifnull (pc := 10) (tgt := 35) d_D_findConstant_10 rfl (fun hc => ?_) (fun hc => ?_)
  · replace w := w.1 hc
    refine kv_p (fun _ _ _ _ _ _ v => vv_iconst (pc := 35) (v := 0) d_D_findConstant_35 rfl v) ?_
    refine kv_p (fun _ _ _ _ _ _ v => vv_istore_n (pc := 36) d_D_findConstant_36 (Nat.le_of_ble_eq_true rfl) v) ?_
    refine kw_lv (lv := [(3, .int 0), (2, va_rf (kr G (dfind K (K.2.1 p1 1)))), (0, .ref (cp_b G + 3)), (1, va_rf (kr G p1))]) (by cases kr G (dfind K (K.2.1 p1 1)) <;> rfl) ?_
    refine kv_p (fun _ _ _ _ _ _ v => vv_iload_n (pc := 37) d_D_findConstant_37 rfl v) ?_
    refine kv_p (fun _ _ _ _ _ _ v => vv_if_eq (pc := 38) (tgt := 45) d_D_findConstant_38 rfl (fun _ => v) (fun hn => absurd (by decide) hn)) ?_
    refine kw_null (pc := 45) d_D_findConstant_45 ?_
    obtain ⟨rfl, rfl⟩ := w
    exact kv_e (fun _ _ => vv_aret (pc := 46) d_D_findConstant_46 rfl (Or.inl ⟨_, rfl⟩) (cp_isr_rf _))
  · replace w := w.2 hc
    refine kv_p (fun _ _ _ _ _ _ v => vv_aload_nr (pc := 13) d_D_findConstant_13 (cp_isr_rf _) rfl v) ?_
    obtain ⟨b2, w⟩ := w
    refine kw_giN (pc := 14) d_D_findConstant_14 fl_D_34 b2 rfl rfl ?_
    by_cases hc : ((K.2.1 (dfind K (K.2.1 p1 1)) 1) : Int32) = 0
    · replace w := w.2 hc
      refine kv_p (fun _ _ _ _ _ _ v => vv_if_ne (pc := 17) (tgt := 35) d_D_findConstant_17 rfl (fun hn => absurd hc hn) (fun _ => v)) ?_
      refine kv_p (fun _ _ _ _ _ _ v => vv_aload_nr (pc := 20) d_D_findConstant_20 (cp_isr_rf _) rfl v) ?_
      refine kw_giN (pc := 21) d_D_findConstant_21 fl_D_38 b2 rfl rfl ?_
      refine kv_p (fun _ _ _ _ _ _ v => vv_aload_nr (pc := 24) d_D_findConstant_24 (cp_isr_rf _) rfl v) ?_
      refine kw_giN (pc := 25) d_D_findConstant_25 fl_D_41 b1 rfl rfl ?_
      by_cases hc : ((K.2.1 (dfind K (K.2.1 p1 1)) 2) : Int32) = (K.2.1 p1 3)
      · replace w := w.2 hc
        refine kv_p (fun _ _ _ _ _ _ v => vv_icmp_ne (pc := 28) (tgt := 35) d_D_findConstant_28 rfl (fun hn => absurd hc hn) (fun _ => v)) ?_
        refine kv_p (fun _ _ _ _ _ _ v => vv_iconst (pc := 31) (v := 1) d_D_findConstant_31 rfl v) ?_
        refine kv_p (fun _ _ _ _ _ _ v => vv_goto (pc := 32) (tgt := 36) d_D_findConstant_32 rfl v) ?_
        refine kv_p (fun _ _ _ _ _ _ v => vv_istore_n (pc := 36) d_D_findConstant_36 (Nat.le_of_ble_eq_true rfl) v) ?_
        refine kw_lv (lv := [(3, .int 1), (2, va_rf (kr G (dfind K (K.2.1 p1 1)))), (0, .ref (cp_b G + 3)), (1, va_rf (kr G p1))]) (by cases kr G (dfind K (K.2.1 p1 1)) <;> rfl) ?_
        refine kv_p (fun _ _ _ _ _ _ v => vv_iload_n (pc := 37) d_D_findConstant_37 rfl v) ?_
        refine kv_p (fun _ _ _ _ _ _ v => vv_if_eq (pc := 38) (tgt := 45) d_D_findConstant_38 rfl (fun hn => absurd hn (by decide)) (fun _ => v)) ?_
        refine kv_p (fun _ _ _ _ _ _ v => vv_aload_nr (pc := 41) d_D_findConstant_41 (cp_isr_rf _) rfl v) ?_
        refine kv_p (fun _ _ _ _ _ _ v => vv_goto (pc := 42) (tgt := 46) d_D_findConstant_42 rfl v) ?_
        obtain ⟨rfl, rfl⟩ := w
        exact kv_e (fun _ _ => vv_aret (pc := 46) d_D_findConstant_46 rfl (Or.inl ⟨_, rfl⟩) (cp_isr_rf _))
      · replace w := w.1 hc
        refine kv_p (fun _ _ _ _ _ _ v => vv_icmp_ne (pc := 28) (tgt := 35) d_D_findConstant_28 rfl (fun _ => v) (fun hn => absurd hn hc)) ?_
        refine kv_p (fun _ _ _ _ _ _ v => vv_iconst (pc := 35) (v := 0) d_D_findConstant_35 rfl v) ?_
        refine kv_p (fun _ _ _ _ _ _ v => vv_istore_n (pc := 36) d_D_findConstant_36 (Nat.le_of_ble_eq_true rfl) v) ?_
        refine kw_lv (lv := [(3, .int 0), (2, va_rf (kr G (dfind K (K.2.1 p1 1)))), (0, .ref (cp_b G + 3)), (1, va_rf (kr G p1))]) (by cases kr G (dfind K (K.2.1 p1 1)) <;> rfl) ?_
        refine kv_p (fun _ _ _ _ _ _ v => vv_iload_n (pc := 37) d_D_findConstant_37 rfl v) ?_
        refine kv_p (fun _ _ _ _ _ _ v => vv_if_eq (pc := 38) (tgt := 45) d_D_findConstant_38 rfl (fun _ => v) (fun hn => absurd (by decide) hn)) ?_
        refine kw_null (pc := 45) d_D_findConstant_45 ?_
        obtain ⟨rfl, rfl⟩ := w
        exact kv_e (fun _ _ => vv_aret (pc := 46) d_D_findConstant_46 rfl (Or.inl ⟨_, rfl⟩) (cp_isr_rf _))
    · replace w := w.1 hc
      refine kv_p (fun _ _ _ _ _ _ v => vv_if_ne (pc := 17) (tgt := 35) d_D_findConstant_17 rfl (fun _ => v) (fun hn => absurd hn hc)) ?_
      refine kv_p (fun _ _ _ _ _ _ v => vv_iconst (pc := 35) (v := 0) d_D_findConstant_35 rfl v) ?_
      refine kv_p (fun _ _ _ _ _ _ v => vv_istore_n (pc := 36) d_D_findConstant_36 (Nat.le_of_ble_eq_true rfl) v) ?_
      refine kw_lv (lv := [(3, .int 0), (2, va_rf (kr G (dfind K (K.2.1 p1 1)))), (0, .ref (cp_b G + 3)), (1, va_rf (kr G p1))]) (by cases kr G (dfind K (K.2.1 p1 1)) <;> rfl) ?_
      refine kv_p (fun _ _ _ _ _ _ v => vv_iload_n (pc := 37) d_D_findConstant_37 rfl v) ?_
      refine kv_p (fun _ _ _ _ _ _ v => vv_if_eq (pc := 38) (tgt := 45) d_D_findConstant_38 rfl (fun _ => v) (fun hn => absurd (by decide) hn)) ?_
      refine kw_null (pc := 45) d_D_findConstant_45 ?_
      obtain ⟨rfl, rfl⟩ := w
      exact kv_e (fun _ _ => vv_aret (pc := 46) d_D_findConstant_46 rfl (Or.inl ⟨_, rfl⟩) (cp_isr_rf _))
theorem c_D_findConstant {D : Nat} {o : cp_G → Option Value} {K' K : cp_K} {p1 : Nat} (w : wp_D_findConstant_0 D (fun G => .inl (o G)) K' K p1) : KC (D + 7) m_D_findConstant (fun G => [.ref (cp_b G + 3), va_rf (kr G p1)]) K o K' := KC.of2 rfl (fun G => by cases kr G p1 <;> exact ⟨Nat.le_of_ble_eq_true rfl, rfl⟩) (b_D_findConstant_0 w)
def wp_T_fitsItsProgram_0 (D : Nat) (o : cp_G → cp_O) (K' K : cp_K) (p1 : Nat) : Prop := nd K p1 9 ∧ (((dfind K (K.2.1 p1 1)) = (0 : Nat) → (o = (fun _ => .inl (some (.int 0))) ∧ K' = K)) ∧ (¬ (dfind K (K.2.1 p1 1)) = (0 : Nat) → nd K (dfind K (K.2.1 p1 1)) 10 ∧ ((((K.2.1 (dfind K (K.2.1 p1 1)) 1) : Int32) = 0 → (o = (fun _ => .inl (some (.int 0))) ∧ K' = K)) ∧ (¬ ((K.2.1 (dfind K (K.2.1 p1 1)) 1) : Int32) = 0 → ((¬ ((K.2.1 (dfind K (K.2.1 p1 1)) 2) : Int32) = ((K.2.1 p1 3) - 1) → (o = (fun _ => .inl (some (.int 0))) ∧ K' = K)) ∧ (((K.2.1 (dfind K (K.2.1 p1 1)) 2) : Int32) = ((K.2.1 p1 3) - 1) → (o = (fun _ => .inl (some (.int 1))) ∧ K' = K)))))))
theorem b_T_fitsItsProgram_0 {D : Nat} {o : cp_G → cp_O} {K' K : cp_K} {p1 : Nat} (w : wp_T_fitsItsProgram_0 D o K' K p1) : JC (D + 7) m_T_fitsItsProgram o K' 0 (fun G => [(0, .ref (cp_b G + 24)), (1, va_rf (kr G p1))]) (fun _ => []) K := by
  unfold wp_T_fitsItsProgram_0 at w
  intro G H d n0 z0 hd
  show kV G H m_T_fitsItsProgram d n0 z0 (o G) K' 0 [(0, .ref (cp_b G + 24)), (1, va_rf (kr G p1))] [] K
  refine kv_p (fun _ _ _ _ _ _ v => vv_aload_n (pc := 0) d_T_fitsItsProgram_0 rfl v) ?_
  refine kw_gf (pc := 1) 3 d_T_fitsItsProgram_1 fl_T_9 (Or.inl ⟨by decide, rfl⟩) rfl (by decide) ?_
  refine kv_p (fun _ _ _ _ _ _ v => vv_aload_nr (pc := 4) d_T_fitsItsProgram_4 (cp_isr_rf _) rfl v) ?_
  obtain ⟨b1, w⟩ := w
  refine kw_giN (pc := 5) d_T_fitsItsProgram_5 fl_T_78 b1 rfl rfl ?_
  refine kw_cv (pc := 8) (As := [.int (K.2.1 p1 1)]) (As0 := (fun G => [.ref (cp_b G + 3), .int (K.2.1 p1 1)])) d_T_fitsItsProgram_8 (C_Dfind) rfl k_D_find ml_T_84 (Or.inl ⟨by decide, rfl⟩) (by omega) (Nat.le_of_ble_eq_true rfl) ?_
  refine kv_p (fun _ _ _ _ _ _ v => vv_astore_n (pc := 11) d_T_fitsItsProgram_11 (cp_isr_rf _) (Nat.le_of_ble_eq_true rfl) v) ?_
  refine kw_lv (lv := [(2, va_rf (kr G (dfind K (K.2.1 p1 1)))), (0, .ref (cp_b G + 24)), (1, va_rf (kr G p1))]) (by cases kr G p1 <;> rfl) ?_
  refine kv_p (fun _ _ _ _ _ _ v => vv_aload_nr (pc := 12) d_T_fitsItsProgram_12 (cp_isr_rf _) rfl v) ?_
  refine kw_ifnull (pc := 13) (tgt := 40) d_T_fitsItsProgram_13 rfl (fun hc => ?_) (fun hc => ?_)
  · replace w := w.1 hc
    refine kv_p (fun _ _ _ _ _ _ v => vv_iconst (pc := 40) (v := 0) d_T_fitsItsProgram_40 rfl v) ?_
    obtain ⟨rfl, rfl⟩ := w
    exact kv_e (fun _ _ => vv_zret (pc := 41) d_T_fitsItsProgram_41 rfl rfl)
  · replace w := w.2 hc
    refine kv_p (fun _ _ _ _ _ _ v => vv_aload_nr (pc := 16) d_T_fitsItsProgram_16 (cp_isr_rf _) rfl v) ?_
    obtain ⟨b2, w⟩ := w
    refine kw_giN (pc := 17) d_T_fitsItsProgram_17 fl_T_90 b2 rfl rfl ?_
    by_cases hc : ((K.2.1 (dfind K (K.2.1 p1 1)) 1) : Int32) = 0
    · replace w := w.1 hc
      refine kv_p (fun _ _ _ _ _ _ v => vv_if_eq (pc := 20) (tgt := 40) d_T_fitsItsProgram_20 rfl (fun _ => v) (fun hn => absurd hc hn)) ?_
      refine kv_p (fun _ _ _ _ _ _ v => vv_iconst (pc := 40) (v := 0) d_T_fitsItsProgram_40 rfl v) ?_
      obtain ⟨rfl, rfl⟩ := w
      exact kv_e (fun _ _ => vv_zret (pc := 41) d_T_fitsItsProgram_41 rfl rfl)
    · replace w := w.2 hc
      refine kv_p (fun _ _ _ _ _ _ v => vv_if_eq (pc := 20) (tgt := 40) d_T_fitsItsProgram_20 rfl (fun hn => absurd hn hc) (fun _ => v)) ?_
      refine kv_p (fun _ _ _ _ _ _ v => vv_aload_nr (pc := 23) d_T_fitsItsProgram_23 (cp_isr_rf _) rfl v) ?_
      refine kw_giN (pc := 24) d_T_fitsItsProgram_24 fl_T_95 b2 rfl rfl ?_
      refine kv_p (fun _ _ _ _ _ _ v => vv_aload_nr (pc := 27) d_T_fitsItsProgram_27 (cp_isr_rf _) rfl v) ?_
      refine kw_giN (pc := 28) d_T_fitsItsProgram_28 fl_T_98 b1 rfl rfl ?_
      refine kv_p (fun _ _ _ _ _ _ v => vv_iconst (pc := 31) (v := 1) d_T_fitsItsProgram_31 rfl v) ?_
      refine kv_p (fun _ _ _ _ _ _ v => vv_isub (pc := 32) d_T_fitsItsProgram_32 v) ?_
      by_cases hc : ((K.2.1 (dfind K (K.2.1 p1 1)) 2) : Int32) = ((K.2.1 p1 3) - 1)
      · replace w := w.2 hc
        refine kv_p (fun _ _ _ _ _ _ v => vv_icmp_ne (pc := 33) (tgt := 40) d_T_fitsItsProgram_33 rfl (fun hn => absurd hc hn) (fun _ => v)) ?_
        refine kv_p (fun _ _ _ _ _ _ v => vv_iconst (pc := 36) (v := 1) d_T_fitsItsProgram_36 rfl v) ?_
        refine kv_p (fun _ _ _ _ _ _ v => vv_goto (pc := 37) (tgt := 41) d_T_fitsItsProgram_37 rfl v) ?_
        obtain ⟨rfl, rfl⟩ := w
        exact kv_e (fun _ _ => vv_zret (pc := 41) d_T_fitsItsProgram_41 rfl rfl)
      · replace w := w.1 hc
        refine kv_p (fun _ _ _ _ _ _ v => vv_icmp_ne (pc := 33) (tgt := 40) d_T_fitsItsProgram_33 rfl (fun _ => v) (fun hn => absurd hn hc)) ?_
        refine kv_p (fun _ _ _ _ _ _ v => vv_iconst (pc := 40) (v := 0) d_T_fitsItsProgram_40 rfl v) ?_
        obtain ⟨rfl, rfl⟩ := w
        exact kv_e (fun _ _ => vv_zret (pc := 41) d_T_fitsItsProgram_41 rfl rfl)
theorem c_T_fitsItsProgram {D : Nat} {o : cp_G → Option Value} {K' K : cp_K} {p1 : Nat} (w : wp_T_fitsItsProgram_0 D (fun G => .inl (o G)) K' K p1) : KC (D + 7) m_T_fitsItsProgram (fun G => [.ref (cp_b G + 24), va_rf (kr G p1)]) K o K' := KC.of2 rfl (fun G => by cases kr G p1 <;> exact ⟨Nat.le_of_ble_eq_true rfl, rfl⟩) (b_T_fitsItsProgram_0 w)
