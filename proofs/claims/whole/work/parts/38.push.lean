/-! ===== Row.push where there is room ===== -/
theorem c_R_push_room {G : cp_G} {h : Nat → cp_E} {n z d r a cap k : Nat} {g : Nat → Value} {f : Nat → Int32} {x : Int32} (R : cp_row G h n r g a cap k f) (hk : k < cap) :
    cp_C G d m_R_push [.ref (cp_b G + r), .int x] h n z none (va_up (va_up h a (.inl (cp_cI G, cap, .inl (upd f k x)))) r (rw_sz (k + 1) g)) n z := by
  obtain ⟨hr, ha, ⟨hg, g0, g1⟩, hf, hk2, hc1, hc2⟩ := R
  have hra : r ≠ a := by
    intro e
    rw [e, hf] at hg
    cases hg
  have hg2 : va_up h a (.inl (cp_cI G, cap, .inl (upd f k x))) r = .inr (3, g) := by rw [cp_up_ne hra]; exact hg
  refine cp_C.of rfl (Nat.le_of_ble_eq_true rfl) ?_
  refine vv_aload_n (pc := 0) d_R_push_0 rfl ?_
  refine vv_getf (pc := 1) d_R_push_1 fl_R_21 hr hg g1 ?_
  refine vv_aload_n (pc := 4) d_R_push_4 rfl ?_
  refine vv_getf (pc := 5) d_R_push_5 fl_R_15 hr hg g0 ?_
  refine vv_alenI (pc := 8) (v := nI cap) d_R_push_8 ha hf rfl ?_
  refine vv_icmp_ne (pc := 9) (tgt := 29) d_R_push_9 rfl (fun _ => ?_) (fun hc => absurd ((nI_eq (by omega) (by omega)).mp hc) (by omega))
  refine vv_aload_n (pc := 29) d_R_push_29 rfl ?_
  refine vv_getf (pc := 30) d_R_push_30 fl_R_15 hr hg g0 ?_
  refine vv_aload_n (pc := 33) d_R_push_33 rfl ?_
  refine vv_getf (pc := 34) d_R_push_34 fl_R_21 hr hg g1 ?_
  refine vv_iload_n (pc := 37) d_R_push_37 rfl ?_
  refine vv_iasN (pc := 38) d_R_push_38 ha hf (by omega) (by omega) ?_
  refine vv_aload_n (pc := 39) d_R_push_39 rfl ?_
  refine vv_dup (pc := 40) d_R_push_40 rfl ?_
  refine vv_getf (pc := 41) d_R_push_41 fl_R_21 hr hg2 g1 ?_
  refine vv_iconst (pc := 44) (v := 1) d_R_push_44 rfl ?_
  refine vv_iadd (pc := 45) d_R_push_45 ?_
  refine vv_topi (y := nI (k + 1)) (nI_1 k) ?_
  refine vv_putf (pc := 46) d_R_push_46 fl_R_21 hr hg2 rfl rfl rfl ?_
  exact vv_vret (pc := 49) d_R_push_49 rfl
