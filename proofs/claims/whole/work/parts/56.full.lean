/-! ===== Row.push where the row is full ===== -/
theorem c_R_push_full {G : cp_G} {h : Nat → cp_E} {n z d r a k : Nat} {g : Nat → Value} {f : Nat → Int32} {x : Int32} (R : cp_row G h n r g a k k f) (hd : 2 ≤ d) (hk : 2 * k ≤ 100000000) :
    cp_C G d m_R_push [.ref (cp_b G + r), .int x] h n z none (va_up (va_up (va_up h r (.inr (3, va_up g 0 (.ref (cp_b G + n))))) n (.inl (cp_cI G, 2 * k, .inl (upd (va_cpy f (fun _ => 0) 0 0 k) k x)))) r (rw_sz (k + 1) (va_up g 0 (.ref (cp_b G + n))))) (n + 1) (z + 2 * k) := by
  obtain ⟨hr, ha, ⟨hg, g0, g1⟩, hf, hk2, hc1, hc2⟩ := R
  have e1 : va_up h n (.inl (cp_cI G, 2 * k, .inl (va_cpy f (fun _ => 0) 0 0 k))) r = .inr (3, g) := by rw [cp_up_ne (by omega)]; exact hg
  have e2 : ∀ u : Value, va_up (va_up h n (.inl (cp_cI G, 2 * k, .inl (va_cpy f (fun _ => (0 : Int32)) 0 0 k)))) r (.inr (3, va_up g 0 u)) n = .inl (cp_cI G, 2 * k, .inl (va_cpy f (fun _ => 0) 0 0 k)) := fun u => by rw [cp_up_ne (by omega)]; exact va_up_at
  have e3 : (va_up (va_up (va_up h n (.inl (cp_cI G, 2 * k, .inl (va_cpy f (fun _ => (0 : Int32)) 0 0 k)))) r (.inr (3, va_up g 0 (.ref (cp_b G + n))))) n (.inl (cp_cI G, 2 * k, .inl (upd (va_cpy f (fun _ => 0) 0 0 k) k x)))) = va_up (va_up h r (.inr (3, va_up g 0 (.ref (cp_b G + n))))) n (.inl (cp_cI G, 2 * k, .inl (upd (va_cpy f (fun _ => 0) 0 0 k) k x))) := by
    funext q
    by_cases h1 : q = n
    · simp [va_up, h1]
    · by_cases h2 : q = r
      · subst h2; simp [va_up, h1]
      · simp [va_up, h1, h2]
  have e4 : va_up (va_up h r (.inr (3, va_up g 0 (.ref (cp_b G + n))))) n (.inl (cp_cI G, 2 * k, .inl (upd (va_cpy f (fun _ => 0) 0 0 k) k x))) r = .inr (3, va_up g 0 (.ref (cp_b G + n))) := by rw [cp_up_ne (by omega)]; exact va_up_at
  have g1' : va_up g 0 (.ref (cp_b G + n)) 1 = .int (nI k) := by rw [cp_up_ne (by omega)]; exact g1
  refine cp_C.of rfl (Nat.le_of_ble_eq_true rfl) ?_
  refine vv_aload_n (pc := 0) d_R_push_0 rfl ?_
  refine vv_getf (pc := 1) d_R_push_1 fl_R_21 hr hg g1 ?_
  refine vv_aload_n (pc := 4) d_R_push_4 rfl ?_
  refine vv_getf (pc := 5) d_R_push_5 fl_R_15 hr hg g0 ?_
  refine vv_alenI (pc := 8) (v := nI k) d_R_push_8 ha hf rfl ?_
  refine vv_icmp_ne (pc := 9) (tgt := 29) d_R_push_9 rfl (fun hc => absurd rfl hc) (fun _ => ?_)
  refine vv_aload_n (pc := 12) d_R_push_12 rfl ?_
  refine vv_aload_n (pc := 13) d_R_push_13 rfl ?_
  refine vv_getf (pc := 14) d_R_push_14 fl_R_15 hr hg g0 ?_
  refine vv_iconst (pc := 17) (v := nI 2) d_R_push_17 rfl ?_
  refine vv_aload_n (pc := 18) d_R_push_18 rfl ?_
  refine vv_getf (pc := 19) d_R_push_19 fl_R_21 hr hg g1 ?_
  refine vv_imul (pc := 22) d_R_push_22 ?_
  refine vv_topi (y := nI (2 * k)) (pk_mul 2 k) ?_
  refine vv_callS (pc := 23) (As := [.ref (cp_b G + a), .int (nI (2 * k))]) d_R_push_23 (c_Y_copyOf (d := d - 1) (by omega) ha hf (by omega) hk) k_Y_copyOf ml_R_25.1 ml_R_25.2 (by omega) (Nat.le_of_ble_eq_true rfl) ?_
  refine vv_putf (pc := 26) d_R_push_26 fl_R_15 (by omega) e1 rfl rfl rfl ?_
  refine vv_aload_n (pc := 29) d_R_push_29 rfl ?_
  refine vv_getf (pc := 30) d_R_push_30 fl_R_15 (by omega) va_up_at va_up_at ?_
  refine vv_aload_n (pc := 33) d_R_push_33 rfl ?_
  refine vv_getf (pc := 34) d_R_push_34 fl_R_21 (by omega) va_up_at g1' ?_
  refine vv_iload_n (pc := 37) d_R_push_37 rfl ?_
  refine vv_iasN (pc := 38) d_R_push_38 (by omega) (e2 _) (by omega) (by omega) ?_
  rw [e3]
  refine vv_aload_n (pc := 39) d_R_push_39 rfl ?_
  refine vv_dup (pc := 40) d_R_push_40 rfl ?_
  refine vv_getf (pc := 41) d_R_push_41 fl_R_21 (by omega) e4 g1' ?_
  refine vv_iconst (pc := 44) (v := 1) d_R_push_44 rfl ?_
  refine vv_iadd (pc := 45) d_R_push_45 ?_
  refine vv_topi (y := nI (k + 1)) (nI_1 k) ?_
  refine vv_putf (pc := 46) d_R_push_46 fl_R_21 (by omega) e4 rfl rfl rfl ?_
  exact vv_vret (pc := 49) d_R_push_49 rfl
