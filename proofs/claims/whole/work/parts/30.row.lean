/-! ===== Row ===== -/
/-- the cell r is a Row: its items lie in the cell a, of cap places; k of them count -/
def cp_row (G : cp_G) (h : Nat → cp_E) (n r : Nat) (g : Nat → Value) (a cap k : Nat) (f : Nat → Int32) : Prop := r < n ∧ a < n ∧ (h r = .inr (3, g) ∧ g 0 = .ref (cp_b G + a) ∧ g 1 = .int (nI k)) ∧ h a = .inl (cp_cI G, cap, .inl f) ∧ k ≤ cap ∧ 1 ≤ cap ∧ cap < 2 ^ 29
section CPRow
variable {G : cp_G} {h : Nat → cp_E} {n z d r a cap k : Nat} {g : Nat → Value} {f : Nat → Int32}

theorem c_R_size (R : cp_row G h n r g a cap k f) : cp_C G d m_R_size [.ref (cp_b G + r)] h n z (some (.int (nI k))) h n z := by
  obtain ⟨hr, ha, ⟨hg, g0, g1⟩, hf, hk, hc1, hc2⟩ := R
  refine cp_C.of rfl (Nat.le_of_ble_eq_true rfl) ?_
  refine vv_aload_n (pc := 0) d_R_size_0 rfl ?_
  refine vv_getf (pc := 1) d_R_size_1 fl_R_21 hr hg g1 ?_
  exact vv_iret (pc := 4) d_R_size_4 rfl
theorem c_R_get {j : Nat} (R : cp_row G h n r g a cap k f) (hj : j < k) : cp_C G d m_R_get [.ref (cp_b G + r), .int (nI j)] h n z (some (.int (f j))) h n z := by
  obtain ⟨hr, ha, ⟨hg, g0, g1⟩, hf, hk, hc1, hc2⟩ := R
  refine cp_C.of rfl (Nat.le_of_ble_eq_true rfl) ?_
  refine vv_iload_n (pc := 0) d_R_get_0 rfl ?_
  refine vv_if_lt (pc := 1) (tgt := 21) d_R_get_1 rfl (fun hc => absurd hc (nI_pos (by omega))) (fun _ => ?_)
  refine vv_iload_n (pc := 4) d_R_get_4 rfl ?_
  refine vv_aload_n (pc := 5) d_R_get_5 rfl ?_
  refine vv_getf (pc := 6) d_R_get_6 fl_R_21 hr hg g1 ?_
  refine vv_icmp_ge (pc := 9) (tgt := 21) d_R_get_9 rfl (fun hc => absurd hc (nI_ge hj (by omega))) (fun _ => ?_)
  refine vv_aload_n (pc := 12) d_R_get_12 rfl ?_
  refine vv_getf (pc := 13) d_R_get_13 fl_R_15 hr hg g0 ?_
  refine vv_iload_n (pc := 16) d_R_get_16 rfl ?_
  refine vv_ialN (pc := 17) d_R_get_17 ha hf (by omega) (by omega) ?_
  refine vv_goto (pc := 18) (tgt := 22) d_R_get_18 rfl ?_
  exact vv_iret (pc := 22) d_R_get_22 rfl
theorem c_R_get_out {i : Int32} (R : cp_row G h n r g a cap k f) (hi : i < 0 ∨ nI k ≤ i) : cp_C G d m_R_get [.ref (cp_b G + r), .int i] h n z (some (.int (-1))) h n z := by
  obtain ⟨hr, ha, ⟨hg, g0, g1⟩, hf, hk, hc1, hc2⟩ := R
  refine cp_C.of rfl (Nat.le_of_ble_eq_true rfl) ?_
  refine vv_iload_n (pc := 0) d_R_get_0 rfl ?_
  refine vv_if_lt (pc := 1) (tgt := 21) d_R_get_1 rfl (fun _ => ?_) (fun hc => ?_)
  · refine vv_iconst (pc := 21) (v := (-1)) d_R_get_21 rfl ?_
    exact vv_iret (pc := 22) d_R_get_22 rfl
  · refine vv_iload_n (pc := 4) d_R_get_4 rfl ?_
    refine vv_aload_n (pc := 5) d_R_get_5 rfl ?_
    refine vv_getf (pc := 6) d_R_get_6 fl_R_21 hr hg g1 ?_
    refine vv_icmp_ge (pc := 9) (tgt := 21) d_R_get_9 rfl (fun _ => ?_) (fun hc2 => absurd (hi.resolve_left hc) hc2)
    refine vv_iconst (pc := 21) (v := (-1)) d_R_get_21 rfl ?_
    exact vv_iret (pc := 22) d_R_get_22 rfl
theorem c_R_set {j : Nat} {x : Int32} (R : cp_row G h n r g a cap k f) (hj : j < k) : cp_C G d m_R_set [.ref (cp_b G + r), .int (nI j), .int x] h n z none (va_up h a (.inl (cp_cI G, cap, .inl (upd f j x)))) n z := by
  obtain ⟨hr, ha, ⟨hg, g0, g1⟩, hf, hk, hc1, hc2⟩ := R
  refine cp_C.of rfl (Nat.le_of_ble_eq_true rfl) ?_
  refine vv_iload_n (pc := 0) d_R_set_0 rfl ?_
  refine vv_if_lt (pc := 1) (tgt := 19) d_R_set_1 rfl (fun hc => absurd hc (nI_pos (by omega))) (fun _ => ?_)
  refine vv_iload_n (pc := 4) d_R_set_4 rfl ?_
  refine vv_aload_n (pc := 5) d_R_set_5 rfl ?_
  refine vv_getf (pc := 6) d_R_set_6 fl_R_21 hr hg g1 ?_
  refine vv_icmp_ge (pc := 9) (tgt := 19) d_R_set_9 rfl (fun hc => absurd hc (nI_ge hj (by omega))) (fun _ => ?_)
  refine vv_aload_n (pc := 12) d_R_set_12 rfl ?_
  refine vv_getf (pc := 13) d_R_set_13 fl_R_15 hr hg g0 ?_
  refine vv_iload_n (pc := 16) d_R_set_16 rfl ?_
  refine vv_iload_n (pc := 17) d_R_set_17 rfl ?_
  refine vv_iasN (pc := 18) d_R_set_18 ha hf (by omega) (by omega) ?_
  exact vv_vret (pc := 19) d_R_set_19 rfl
theorem c_R_set_out {i x : Int32} (R : cp_row G h n r g a cap k f) (hi : i < 0 ∨ nI k ≤ i) : cp_C G d m_R_set [.ref (cp_b G + r), .int i, .int x] h n z none h n z := by
  obtain ⟨hr, ha, ⟨hg, g0, g1⟩, hf, hk, hc1, hc2⟩ := R
  refine cp_C.of rfl (Nat.le_of_ble_eq_true rfl) ?_
  refine vv_iload_n (pc := 0) d_R_set_0 rfl ?_
  refine vv_if_lt (pc := 1) (tgt := 19) d_R_set_1 rfl (fun _ => ?_) (fun hc => ?_)
  · exact vv_vret (pc := 19) d_R_set_19 rfl
  · refine vv_iload_n (pc := 4) d_R_set_4 rfl ?_
    refine vv_aload_n (pc := 5) d_R_set_5 rfl ?_
    refine vv_getf (pc := 6) d_R_set_6 fl_R_21 hr hg g1 ?_
    refine vv_icmp_ge (pc := 9) (tgt := 19) d_R_set_9 rfl (fun _ => ?_) (fun hc2 => absurd (hi.resolve_left hc) hc2)
    exact vv_vret (pc := 19) d_R_set_19 rfl
/-- the fields of a Row of k items -/
abbrev rw_sz (k : Nat) (g : Nat → Value) : cp_E := .inr (3, va_up g 1 (.int (nI k)))
theorem c_R_cut {j : Nat} (R : cp_row G h n r g a cap k f) (hj : j < k) : cp_C G d m_R_cut [.ref (cp_b G + r), .int (nI j)] h n z none (va_up h r (rw_sz j g)) n z := by
  obtain ⟨hr, ha, ⟨hg, g0, g1⟩, hf, hk, hc1, hc2⟩ := R
  refine cp_C.of rfl (Nat.le_of_ble_eq_true rfl) ?_
  refine vv_iload_n (pc := 0) d_R_cut_0 rfl ?_
  refine vv_if_lt (pc := 1) (tgt := 17) d_R_cut_1 rfl (fun hc => absurd hc (nI_pos (by omega))) (fun _ => ?_)
  refine vv_iload_n (pc := 4) d_R_cut_4 rfl ?_
  refine vv_aload_n (pc := 5) d_R_cut_5 rfl ?_
  refine vv_getf (pc := 6) d_R_cut_6 fl_R_21 hr hg g1 ?_
  refine vv_icmp_ge (pc := 9) (tgt := 17) d_R_cut_9 rfl (fun hc => absurd hc (nI_ge hj (by omega))) (fun _ => ?_)
  refine vv_aload_n (pc := 12) d_R_cut_12 rfl ?_
  refine vv_iload_n (pc := 13) d_R_cut_13 rfl ?_
  refine vv_putf (pc := 14) d_R_cut_14 fl_R_21 hr hg rfl rfl rfl ?_
  exact vv_vret (pc := 17) d_R_cut_17 rfl
theorem c_R_cut_out {i : Int32} (R : cp_row G h n r g a cap k f) (hi : i < 0 ∨ nI k ≤ i) : cp_C G d m_R_cut [.ref (cp_b G + r), .int i] h n z none h n z := by
  obtain ⟨hr, ha, ⟨hg, g0, g1⟩, hf, hk, hc1, hc2⟩ := R
  refine cp_C.of rfl (Nat.le_of_ble_eq_true rfl) ?_
  refine vv_iload_n (pc := 0) d_R_cut_0 rfl ?_
  refine vv_if_lt (pc := 1) (tgt := 17) d_R_cut_1 rfl (fun _ => ?_) (fun hc => ?_)
  · exact vv_vret (pc := 17) d_R_cut_17 rfl
  · refine vv_iload_n (pc := 4) d_R_cut_4 rfl ?_
    refine vv_aload_n (pc := 5) d_R_cut_5 rfl ?_
    refine vv_getf (pc := 6) d_R_cut_6 fl_R_21 hr hg g1 ?_
    refine vv_icmp_ge (pc := 9) (tgt := 17) d_R_cut_9 rfl (fun _ => ?_) (fun hc2 => absurd (hi.resolve_left hc) hc2)
    exact vv_vret (pc := 17) d_R_cut_17 rfl
end CPRow
