/-! ===== noNames: a loop ===== -/
theorem va_up_eq {α : Type} {f : Nat → α} {k : Nat} {v : α} : va_up f k v k = v := by simp [va_up]
theorem va_up_cm {α : Type} {f : Nat → α} {i j : Nat} {a b : α} (h : i ≠ j) : va_up (va_up f i a) j b = va_up (va_up f j b) i a := by
  funext q
  by_cases h1 : q = i
  · by_cases h2 : q = j
    · exact absurd (h1.symm.trans h2) h
    · simp [va_up, h1, h]
  · simp [va_up, h1]
/-- the first k places hold x -/
def cp_fill (f : Nat → Int32) (x : Int32) (k : Nat) : Nat → Int32 := fun j => if j < k then x else f j
theorem cp_fill_s {f : Nat → Int32} {x : Int32} {k : Nat} : upd (cp_fill f x k) k x = cp_fill f x (k + 1) := by
  funext j
  simp only [upd, cp_fill]
  by_cases h1 : j = k
  · subst h1; simp
  · by_cases h2 : j < k
    · simp [h1, h2, Nat.lt_succ_of_lt h2]
    · have : ¬ j < k + 1 := by omega
      simp [h1, h2, this]
theorem cp_fill_0 {f : Nat → Int32} {x : Int32} : cp_fill f x 0 = f := by funext j; simp [cp_fill]
theorem va_up_id {α : Type} {f : Nat → α} {k : Nat} {v : α} (h : f k = v) : va_up f k v = f := by
  funext q
  by_cases h1 : q = k
  · subst h1; simp [va_up, h]
  · simp [va_up, h1]
section NoNames
variable {G : cp_G} {h : Nat → cp_E} {n z d : Nat} {g26 : Nat → Value} {f63 f64 : Nat → Int32}
def nn_h (G : cp_G) (h : Nat → cp_E) (f63 f64 : Nat → Int32) (k : Nat) : Nat → cp_E := va_up (va_up h 63 (.inl (cp_cI G, 260, .inl (cp_fill f63 (-1) k)))) 64 (.inl (cp_cI G, 26, .inl (cp_fill f64 (-1) k)))
theorem nn_s {k : Nat} : va_up (va_up (nn_h G h f63 f64 k) 63 (.inl (cp_cI G, 260, .inl (upd (cp_fill f63 (-1) k) k (-1))))) 64 (.inl (cp_cI G, 26, .inl (upd (cp_fill f64 (-1) k) k (-1)))) = nn_h G h f63 f64 (k + 1) := by
  rw [cp_fill_s, cp_fill_s]
  funext q
  by_cases h1 : q = 64
  · simp [nn_h, va_up, h1]
  · by_cases h2 : q = 63
    · simp [nn_h, va_up, h2]
    · simp [nn_h, va_up, h1, h2]
theorem l_M_noNames (hn : 65 ≤ n) (H26 : h 26 = .inr (11, g26)) (E50 : g26 50 = .ref (cp_b G + 63)) (E51 : g26 51 = .ref (cp_b G + 64)) :
    ∀ (m k : Nat), k + m = 26 → cp_V G m_M_noNames d n z (.inl none) (nn_h G h f63 f64 26) n z 2 [(1, .int (nI k)), (0, .ref (cp_b G + 26))] [] (nn_h G h f63 f64 k) n z := by
  intro m
  induction m with
  | zero =>
    intro k hk
    obtain rfl : k = 26 := by omega
    refine vv_iload_n (pc := 2) d_M_noNames_2 rfl ?_
    refine vv_bipush (pc := 3) (v := 26) d_M_noNames_3 rfl ?_
    refine vv_icmp_ge (pc := 5) (tgt := 28) d_M_noNames_5 rfl (fun _ => ?_) (fun hc => absurd (by decide +kernel) hc)
    exact vv_vret (pc := 28) d_M_noNames_28 rfl
  | succ m ih =>
    intro k hk
    refine vv_iload_n (pc := 2) d_M_noNames_2 rfl ?_
    refine vv_bipush (pc := 3) (v := 26) d_M_noNames_3 rfl ?_
    refine vv_icmp_ge (pc := 5) (tgt := 28) d_M_noNames_5 rfl (fun hc => absurd hc (nI_ge (a := k) (b := 26) (by omega) (by omega))) (fun _ => ?_)
    refine vv_aload_n (pc := 8) d_M_noNames_8 rfl ?_
    refine vv_getf (pc := 9) d_M_noNames_9 fl_M_118 (by omega) H26 E50 ?_
    refine vv_iload_n (pc := 12) d_M_noNames_12 rfl ?_
    refine vv_iconst (pc := 13) (v := (-1)) d_M_noNames_13 rfl ?_
    refine vv_iasN (pc := 14) (j := k) d_M_noNames_14 (by omega) (len := 260) (f := cp_fill f63 (-1) k) rfl (by omega) (by omega) ?_
    refine vv_aload_n (pc := 15) d_M_noNames_15 rfl ?_
    refine vv_getf (pc := 16) d_M_noNames_16 fl_M_121 (by omega) H26 E51 ?_
    refine vv_iload_n (pc := 19) d_M_noNames_19 rfl ?_
    refine vv_iconst (pc := 20) (v := (-1)) d_M_noNames_20 rfl ?_
    refine vv_iasN (pc := 21) (j := k) d_M_noNames_21 (by omega) (len := 26) (f := cp_fill f64 (-1) k) rfl (by omega) (by omega) ?_
    refine vv_iinc (pc := 22) (v := nI (k + 1)) d_M_noNames_22 rfl (nI_1 k) (Nat.le_of_ble_eq_true rfl) ?_
    refine vv_goto (pc := 25) (tgt := 2) d_M_noNames_25 rfl ?_
    rw [nn_s]
    exact ih (k + 1) (by omega)
theorem x_M_noNames (hn : 65 ≤ n) (H26 : h 26 = .inr (11, g26)) (E50 : g26 50 = .ref (cp_b G + 63)) (H63 : h 63 = .inl (cp_cI G, 260, .inl f63)) (E51 : g26 51 = .ref (cp_b G + 64)) (H64 : h 64 = .inl (cp_cI G, 26, .inl f64)) :
    cp_C G d m_M_noNames [.ref (cp_b G + 26)] h n z none (va_up (va_up h 63 (.inl (cp_cI G, 260, .inl (cp_fill f63 (-1) 26)))) 64 (.inl (cp_cI G, 26, .inl (cp_fill f64 (-1) 26)))) n z := by
  refine cp_C.of rfl (Nat.le_of_ble_eq_true rfl) ?_
  refine vv_iconst (pc := 0) (v := 0) d_M_noNames_0 rfl ?_
  refine vv_istore_n (pc := 1) d_M_noNames_1 (Nat.le_of_ble_eq_true rfl) ?_
  have e : h = nn_h G h f63 f64 0 := by
    unfold nn_h
    rw [cp_fill_0, cp_fill_0, va_up_id H63, va_up_id H64]
  have k := l_M_noNames (G := G) (h := h) (f63 := f63) (f64 := f64) (z := z) (d := d) hn H26 E50 E51 26 0 rfl
  rw [← e] at k
  exact k
end NoNames
