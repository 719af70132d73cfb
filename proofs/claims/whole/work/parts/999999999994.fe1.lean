/-! ===== the face: check ===== -/
section CPFF
variable {K K1 K2 K' : cp_K} {S S1 S2 S' : cp_S} {Ls : List Nat} {rf P : Nat}
theorem SHW.fk {n : Nat} (h : SHW K K' n) : FK 0 K K' := by
  obtain ⟨-, -, h3, -, h5, h6⟩ := h
  have h7 : K'.2.2.2 = K.2.2.2 := by rw [h5]
  refine ⟨fun p _ p0 p2 _ _ _ _ _ => h3 p p0 p2, fun p _ _ _ => by rw [h5], fun p _ => by rw [h6], by rw [h6]; exact Nat.le_refl _, fun k => ⟨fun r hr => ?_, ?_⟩⟩
  · have := k r hr
    unfold rcap at this ⊢
    rw [h7]; exact this
  · unfold k_caps
    rw [h7, h6]; omega
theorem tbg : FK 0 K (tbegin K 0) ∧ FK 0 K (tbegin K 1) := by
  unfold tbegin
  exact ⟨((FK.kI (by omega)).trans (FK.kI (by omega))).trans (FK.kI (by omega)), ((FK.kI (by omega)).trans (FK.kI (by omega))).trans (FK.kI (by omega))⟩
theorem tbg_i {x : Int32} {p : Nat} (hp : p ≠ 24) : (tbegin K x).2.1 p = K.2.1 p := by
  unfold tbegin
  rw [kI_i, kI_i, kI_i, cp_up_ne hp, cp_up_ne hp, cp_up_ne hp]
theorem tbg_4 {x : Int32} : (tbegin K x).2.1 24 4 = x ∧ (tbegin K x).2.1 24 5 = 0 := by
  unfold tbegin
  simp only [kI_i, va_up_at]
  rw [cp_up_ne (by decide), cp_up_ne (by decide), va_up_at, cp_up_ne (by decide), va_up_at]
  exact ⟨rfl, rfl⟩
/-- the rows of a value are kept as the result -/
theorem chk_rows {m : Nat} {x1 x2 x3 : Int32} {n : Nat} (hn : n ≤ 100) (hm : m ≤ 100) (h75 : S.1 75 = nI m) : ∃ S', JJ 8 m_M_check (some (.int (nI n))) S' 167 [(1, .int x1), (2, .int x2), (3, .int x3), (4, .int (nI n)), (5, .int 0)] S ∧ S'.1 = va_up S.1 3 (nI n) ∧ (∀ p, p ≠ 28 → ¬ (82 ≤ p ∧ p ≤ 84) → S'.2 p = S.2 p) ∧ (∀ x, x < n → S'.2 28 x = S.2 29 x) ∧ ∀ x, x < m → S'.2 82 x = S.2 79 x ∧ S'.2 83 x = S.2 80 x ∧ S'.2 84 x = S.2 81 x := by
  have lp : ∀ (rem i : Nat) (Si : cp_S), i + rem = m → Si.1 = S.1 → (∀ p, ¬ (82 ≤ p ∧ p ≤ 84) → Si.2 p = S.2 p) → (∀ x, x < i → Si.2 82 x = S.2 79 x ∧ Si.2 83 x = S.2 80 x ∧ Si.2 84 x = S.2 81 x) → ∃ S', JJ 8 m_M_check (some (.int (nI n))) S' 167 [(1, .int x1), (2, .int x2), (3, .int x3), (4, .int (nI n)), (5, .int (nI i))] Si ∧ S'.1 = va_up S.1 3 (nI n) ∧ (∀ p, p ≠ 28 → ¬ (82 ≤ p ∧ p ≤ 84) → S'.2 p = S.2 p) ∧ (∀ x, x < n → S'.2 28 x = S.2 29 x) ∧ ∀ x, x < m → S'.2 82 x = S.2 79 x ∧ S'.2 83 x = S.2 80 x ∧ S'.2 84 x = S.2 81 x := by
    intro rem
    induction rem with
    | zero =>
      intro i Si hi h1 h2 h3
      have : i = m := by omega
      subst this
      obtain ⟨S', a1, a2, a3, a4⟩ := MC_show (S := Si) hn
      refine ⟨S', b_M_check_167 ⟨fun _ => ⟨nI n, S', a1, rfl, rfl⟩, fun q => absurd (by rw [h1, h75]; exact Int32.le_refl _) q⟩, by rw [a2, h1], fun p p1 p2 => by rw [a3 p p1, h2 p p2], fun x hx => by rw [a4 x hx, h2 29 (by omega)], fun x hx => ?_⟩
      rw [a3 82 (by decide), a3 83 (by decide), a3 84 (by decide)]
      exact h3 x hx
    | succ rem ih =>
      intro i Si hi h1 h2 h3
      obtain ⟨S', a1, a2⟩ := ih (i + 1) (Si.1, va_up (va_up (va_up Si.2 82 (upd (Si.2 82) i (Si.2 79 i))) 83 (upd (Si.2 83) i (Si.2 80 i))) 84 (upd (Si.2 84) i (Si.2 81 i))) (by omega) h1 (fun p hp => by
        rw [← h2 p hp]
        show va_up (va_up (va_up Si.2 82 (upd (Si.2 82) i (Si.2 79 i))) 83 (upd (Si.2 83) i (Si.2 80 i))) 84 (upd (Si.2 84) i (Si.2 81 i)) p = Si.2 p
        rw [cp_up_ne (by omega), cp_up_ne (by omega), cp_up_ne (by omega)]) (fun x hx => by
        show va_up (va_up (va_up Si.2 82 (upd (Si.2 82) i (Si.2 79 i))) 83 (upd (Si.2 83) i (Si.2 80 i))) 84 (upd (Si.2 84) i (Si.2 81 i)) 82 x = S.2 79 x ∧ va_up (va_up (va_up Si.2 82 (upd (Si.2 82) i (Si.2 79 i))) 83 (upd (Si.2 83) i (Si.2 80 i))) 84 (upd (Si.2 84) i (Si.2 81 i)) 83 x = S.2 80 x ∧ va_up (va_up (va_up Si.2 82 (upd (Si.2 82) i (Si.2 79 i))) 83 (upd (Si.2 83) i (Si.2 80 i))) 84 (upd (Si.2 84) i (Si.2 81 i)) 84 x = S.2 81 x
        rw [cp_up_ne (show (82 : Nat) ≠ 84 by decide), cp_up_ne (show (82 : Nat) ≠ 83 by decide), va_up_at, cp_up_ne (show (83 : Nat) ≠ 84 by decide), va_up_at, va_up_at]
        by_cases e : x = i
        · rw [e, pk_us, pk_us, pk_us, h2 79 (by omega), h2 80 (by omega), h2 81 (by omega)]; exact ⟨rfl, rfl, rfl⟩
        · rw [pk_un e, pk_un e, pk_un e]; exact h3 x (by omega))
      have v1 : vp_in (nI i) (cp_ml 79) := vp_in_nI (show i < 101 by omega) (by decide)
      refine ⟨S', b_M_check_167 ⟨fun q => ?_, fun _ => ⟨v1, v1, v1, v1, v1, v1, ?_⟩⟩, a2⟩
      · rw [h1, h75] at q
        exact absurd ((nI_leq (by omega) (by omega)).mp q) (by omega)
      · rw [nI_clamp (show i < 2 ^ 31 by omega), nI_1]
        exact a1
  obtain ⟨S', a1, a2⟩ := lp m 0 S (by omega) rfl (fun _ _ => rfl) (fun x hx => absurd hx (by omega))
  exact ⟨S', a1, a2⟩
/-- both are ready to read -/
theorem chk_start (h : INV K S Ls rf P) : ∃ K1 K2 S1 tx n, KC 8 m_P_openText (fun G => [.ref (cp_b G + 0)]) K (fun _ => none) K1 ∧ K2 = kP (kI K1 23 4 0) 0 11 0 ∧ S1 = (va_up (va_up (va_up S.1 0 0) 60 0) 79 0, S.2) ∧ FK 0 K K2 ∧ FS rf P S S1 ∧ RIN tx n rf K2 S1 ∧ (K2.2.1 0 1 = 0 ∧ K2.2.1 0 3 = K.2.1 0 3 ∧ K2.2.1 2 = K.2.1 2 ∧ K2.2.2.1 0 11 = 0 ∧ K2.2.1 23 4 = 0) ∧ (rsz K2 7 = 0 ∧ BS K2 0 ∧ rsz K2 9 < 16000 ∧ rsz K2 11 < 16000) ∧ 86 ≤ K2.1.1 := by
  obtain ⟨K1, tx, n, o1, ⟨o2, o3⟩, o4, ⟨o5, o6, o7, o8⟩, ⟨o9, o10⟩, o11⟩ := open_m h
  refine ⟨K1, _, _, tx, n, o1, rfl, rfl, (o2.trans (FK.kI (by omega))).trans (FK.kP (by omega)), FS.of (fun k hk => ?_) (fun _ _ => rfl), o11 _ _ ?_ ?_ rfl rfl ?_ ?_ rfl, ⟨?_, ?_, ?_, ?_, ?_⟩, ⟨o5, o6, o7, o8⟩, ?_⟩
  · show va_up (va_up (va_up S.1 0 0) 60 0) 79 0 k = _
    rw [cp_up_ne (by omega), cp_up_ne (by omega), cp_up_ne (by omega)]
  · rw [kP_i, kI_i, cp_up_ne (by decide)]
  · rw [kP_i, kI_i, cp_up_ne (by decide)]
  · show va_up (va_up (va_up S.1 0 0) 60 0) 79 0 1 = _
    rw [cp_up_ne (by omega), cp_up_ne (by omega), cp_up_ne (by omega)]
  · show va_up (va_up (va_up S.1 0 0) 60 0) 79 0 16 = _
    rw [cp_up_ne (by omega), cp_up_ne (by omega), cp_up_ne (by omega)]
  · rw [kP_i, kI_i, cp_up_ne (by decide)]; exact o4
  · rw [kP_i, kI_i, cp_up_ne (by decide)]; exact o3.1.1
  · rw [kP_i, kI_i, cp_up_ne (by decide)]; exact o3.2.1
  · rw [kP_r, va_up_at, va_up_at]
  · rw [kP_i, kI_i, va_up_at, va_up_at]
  · show 86 ≤ K1.1.1
    rw [o10]; exact h.2.2.2.2.2.2.2.2
end CPFF
