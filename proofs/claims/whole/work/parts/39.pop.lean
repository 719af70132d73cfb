/-! ===== Row.pop ===== -/
theorem c_R_pop {G : cp_G} {h : Nat → cp_E} {n z d r a cap k : Nat} {g : Nat → Value} {f : Nat → Int32} (R : cp_row G h n r g a cap (k + 1) f) :
    cp_C G d m_R_pop [.ref (cp_b G + r)] h n z (some (.int (f k))) (va_up h r (rw_sz k g)) n z := by
  obtain ⟨hr, ha, ⟨hg, g0, g1⟩, hf, hk2, hc1, hc2⟩ := R
  have hra : a ≠ r := by
    intro e
    rw [e, hg] at hf
    cases hf
  have hf2 : va_up h r (rw_sz k g) a = .inl (cp_cI G, cap, .inl f) := by rw [cp_up_ne hra]; exact hf
  refine cp_C.of rfl (Nat.le_of_ble_eq_true rfl) ?_
  refine vv_aload_n (pc := 0) d_R_pop_0 rfl ?_
  refine vv_getf (pc := 1) d_R_pop_1 fl_R_21 hr hg g1 ?_
  refine vv_if_ne (pc := 4) (tgt := 9) d_R_pop_4 rfl (fun _ => ?_) (fun hc => absurd hc (nI_ne0 (by omega) (by omega)))
  refine vv_aload_n (pc := 9) d_R_pop_9 rfl ?_
  refine vv_dup (pc := 10) d_R_pop_10 rfl ?_
  refine vv_getf (pc := 11) d_R_pop_11 fl_R_21 hr hg g1 ?_
  refine vv_iconst (pc := 14) (v := 1) d_R_pop_14 rfl ?_
  refine vv_isub (pc := 15) d_R_pop_15 ?_
  refine vv_topi (y := nI k) (nI_pred k) ?_
  refine vv_putf (pc := 16) d_R_pop_16 fl_R_21 hr hg rfl rfl rfl ?_
  refine vv_aload_n (pc := 19) d_R_pop_19 rfl ?_
  refine vv_getf (pc := 20) d_R_pop_20 fl_R_15 hr va_up_at g0 ?_
  refine vv_aload_n (pc := 23) d_R_pop_23 rfl ?_
  refine vv_getf (pc := 24) d_R_pop_24 fl_R_21 hr va_up_at va_up_at ?_
  refine vv_ialN (pc := 27) d_R_pop_27 ha hf2 (by omega) (by omega) ?_
  exact vv_iret (pc := 28) d_R_pop_28 rfl
