/-! ===== Arrays.copyOf into a longer array ===== -/
theorem va_up_up {α : Type} {f : Nat → α} {k : Nat} {u v : α} : va_up (va_up f k u) k v = va_up f k v := by
  funext q
  by_cases h1 : q = k
  · subst h1; simp [va_up]
  · simp [va_up, h1]
theorem cp_up_ne {α : Type} {f : Nat → α} {k q : Nat} {v : α} (h : q ≠ k) : va_up f k v q = f q := by simp [va_up, h]
theorem va_up_at {α : Type} {f : Nat → α} {k : Nat} {v : α} : va_up f k v k = v := by simp [va_up]
theorem c_Y_copyOf {G : cp_G} {h : Nat → cp_E} {n z d a N M : Nat} {f : Nat → Int32} (hd : 1 ≤ d) (ha : a < n) (hh : h a = .inl (cp_cI G, N, .inl f)) (hNM : N < M) (hM : M ≤ 100000000) :
    cp_C G d m_Y_copyOf [.ref (cp_b G + a), .int (nI M)] h n z (some (.ref (cp_b G + n))) (va_up h n (.inl (cp_cI G, M, .inl (va_cpy f (fun _ => 0) 0 0 N)))) (n + 1) (z + M) := by
  have hc : (nI N).toNatClampNeg = N := nI_clamp (by omega)
  have ha2 : va_up h n (.inl (cp_cI G, M, .inl (fun _ => (0 : Int32)))) a = .inl (cp_cI G, N, .inl f) := by rw [cp_up_ne (by omega)]; exact hh
  refine cp_C.of rfl (Nat.le_of_ble_eq_true rfl) ?_
  refine vv_iload_n (pc := 0) d_Y_copyOf_0 rfl ?_
  refine vv_aload_n (pc := 1) d_Y_copyOf_1 rfl ?_
  refine vv_alenI (pc := 2) (v := nI N) d_Y_copyOf_2 ha hh rfl ?_
  refine vv_icmp_ne (pc := 3) (tgt := 14) d_Y_copyOf_3 rfl (fun _ => ?_) (fun hc2 => absurd ((nI_eq (by omega) (by omega)).mp hc2) (by omega))
  refine vv_iload_n (pc := 14) d_Y_copyOf_14 rfl ?_
  refine vv_newaI (pc := 15) (N := M) d_Y_copyOf_15 cp_arI (nI_pos (by omega)) (nI_clamp (by omega)) (by show M * 4 ≤ 536870912; omega) ?_
  refine vv_astore_n (pc := 17) d_Y_copyOf_17 cp_isr_r (Nat.le_of_ble_eq_true rfl) ?_
  refine vv_aload_n (pc := 18) d_Y_copyOf_18 rfl ?_
  refine vv_iconst (pc := 19) (v := 0) d_Y_copyOf_19 rfl ?_
  refine vv_aload_n (pc := 20) d_Y_copyOf_20 rfl ?_
  refine vv_iconst (pc := 21) (v := 0) d_Y_copyOf_21 rfl ?_
  refine vv_aload_n (pc := 22) d_Y_copyOf_22 rfl ?_
  refine vv_alenI (pc := 23) (v := nI N) d_Y_copyOf_23 (by omega) ha2 rfl ?_
  refine vv_iload_n (pc := 24) d_Y_copyOf_24 rfl ?_
  refine vv_mmin (pc := 25) d_Y_copyOf_25 ml_Y_304.1 (by omega) (Nat.le_of_ble_eq_true rfl) ?_
  refine vv_topi (y := nI N) (if_neg (nI_nlt (by omega) (by omega))) ?_
  refine vv_acpy (pc := 28) (j := n) d_Y_copyOf_28 cp_acl (by omega) (by omega) ha2 va_up_at (by decide) (by decide) (nI_pos (by omega)) (by rw [hc]; show 0 + N ≤ N; omega) (by rw [hc]; show 0 + N ≤ M; omega) (by omega) (Nat.le_of_ble_eq_true rfl) ?_
  rw [va_up_up, hc]
  refine vv_aload_n (pc := 31) d_Y_copyOf_31 rfl ?_
  exact vv_aret (pc := 32) d_Y_copyOf_32 rfl (Or.inr ⟨_, rfl⟩) cp_isr_r
