/-! ===== the face: lemma, both at once ===== -/
section CPGC
variable {K K1 K2 K0 K' : cp_K} {S S1 S0 S' : cp_S} {Ls : List Nat} {rf P : Nat}
theorem INV.len {l : Nat} (h : INV K S Ls rf P) (hl : l < 26) (hm : ¬ l ∈ Ls) : Ls.length < 26 := by
  have := nodup_26 26 (l :: Ls) (List.nodup_cons.mpr ⟨hm, DSK.len _ _ _ h.2.2.1.1⟩) (fun x hx => by
    rcases List.mem_cons.mp hx with e | e
    · rw [e]; exact hl
    · exact (DSK.ne _ _ _ h.2.2.1.1 x e).1)
  rw [List.length_cons] at this
  omega
/-- the reference takes the result as nodes -/
theorem lem_rows {m l len : Nat} {x1 x2 : Int32} (hl : l < 26) (hlen : len < 26) (h14 : S.1 14 = nI len) (h16 : S.1 16 = nI rf) (hrf : rf + m ≤ 2720) (hm : m ≤ 100) (h20 : ∃ r, r < 2720 ∧ S.1 20 = nI r) (hst : (S.1 80 = 0 ∧ S.1 82 = nI m) ∨ (¬ S.1 80 = 0 ∧ m = 0)) : ∃ S', JJ 2 m_M_lemma none S' 110 [(1, .int x1), (2, .int x2), (3, .int (nI l)), (4, .int 0)] S ∧ (∀ k, k ≠ 14 → k ≠ 16 → S'.1 k = S.1 k) ∧ S'.1 14 = nI (len + 1) ∧ S'.1 16 = nI (rf + m) ∧ (∀ p, p ≠ 30 → p ≠ 31 → p ≠ 38 → ¬ (39 ≤ p ∧ p ≤ 43) → S'.2 p = S.2 p) ∧ S'.2 30 = upd (S.2 30) l 1 ∧ S'.2 31 = upd (S.2 31) l 0 ∧ S'.2 38 = upd (S.2 38) len (nI l) ∧ (∀ p, 39 ≤ p → p ≤ 41 → ∀ x, x < rf → S'.2 p x = S.2 p x) ∧ ∀ x, x < m → S'.2 39 (rf + x) = S.2 82 x ∧ S'.2 40 (rf + x) = S.2 83 x ∧ S'.2 41 (rf + x) = S.2 84 x := by
  have lp : ∀ (rem i : Nat) (Si : cp_S), i + rem = m → (∀ k, k ≠ 16 → Si.1 k = S.1 k) → Si.1 16 = nI (rf + i) → (∀ p, ¬ (39 ≤ p ∧ p ≤ 43) → Si.2 p = S.2 p) → (∀ p, 39 ≤ p → p ≤ 41 → ∀ x, x < rf → Si.2 p x = S.2 p x) → (∀ x, x < i → Si.2 39 (rf + x) = S.2 82 x ∧ Si.2 40 (rf + x) = S.2 83 x ∧ Si.2 41 (rf + x) = S.2 84 x) → ∃ S', JJ 2 m_M_lemma none S' 110 [(1, .int x1), (2, .int x2), (3, .int (nI l)), (4, .int (nI i))] Si ∧ (∀ k, k ≠ 14 → k ≠ 16 → S'.1 k = S.1 k) ∧ S'.1 14 = nI (len + 1) ∧ S'.1 16 = nI (rf + m) ∧ (∀ p, p ≠ 30 → p ≠ 31 → p ≠ 38 → ¬ (39 ≤ p ∧ p ≤ 43) → S'.2 p = S.2 p) ∧ S'.2 30 = upd (S.2 30) l 1 ∧ S'.2 31 = upd (S.2 31) l 0 ∧ S'.2 38 = upd (S.2 38) len (nI l) ∧ (∀ p, 39 ≤ p → p ≤ 41 → ∀ x, x < rf → S'.2 p x = S.2 p x) ∧ ∀ x, x < m → S'.2 39 (rf + x) = S.2 82 x ∧ S'.2 40 (rf + x) = S.2 83 x ∧ S'.2 41 (rf + x) = S.2 84 x := by
    intro rem
    induction rem with
    | zero =>
      intro i Si hi h1 h2 h3 h4 h5
      have : i = m := by omega
      subst this
      obtain ⟨S', a1, a2, a3, a4, a5, a6⟩ := rem_r (S := Si) (kd := 1) (cn := 0) hl hlen (by rw [h1 14 (by decide)]; exact h14)
      refine ⟨S', b_M_lemma_110 ⟨fun _ => ⟨S', a1, rfl, rfl⟩, fun _ => ⟨fun _ => ⟨S', a1, rfl, rfl⟩, fun q => ?_⟩⟩, fun k k1 k2 => by rw [a2, cp_up_ne k1, h1 k k2], by rw [a2, va_up_at], by rw [a2, cp_up_ne (by decide)]; exact h2, fun p p1 p2 p3 p4 => by rw [a3 p p1 p2 p3, h3 p p4], by rw [a4, h3 30 (by omega)], by rw [a5, h3 31 (by omega)], by rw [a6, h3 38 (by omega)], fun p p1 p2 x hx => by rw [a3 p (by omega) (by omega) (by omega)]; exact h4 p p1 p2 x hx, fun x hx => by rw [a3 39 (by decide) (by decide) (by decide), a3 40 (by decide) (by decide) (by decide), a3 41 (by decide) (by decide) (by decide)]; exact h5 x hx⟩
      rename_i q82
      exfalso
      rw [h1 80 (by decide)] at q
      rcases hst with ⟨-, e⟩ | ⟨e, -⟩
      · rw [h1 82 (by decide), e] at q82
        exact q82 (Int32.le_refl _)
      · exact e q
    | succ rem ih =>
      intro i Si hi h1 h2 h3 h4 h5
      obtain ⟨e80, e82⟩ : S.1 80 = 0 ∧ S.1 82 = nI m := by
        rcases hst with e | ⟨-, e⟩
        · exact e
        · omega
      obtain ⟨T, b1, b2, b3, b4, b5, b6⟩ := nod_r (S := Si) (x := S.2 82 i) (v := S.2 83 i) h2 (by omega) (by rw [h1 20 (by decide)]; exact h20)
      obtain ⟨T', hT'⟩ : ∃ T' : cp_S, T' = (T.1, va_up T.2 41 (upd (T.2 41) (rf + i) (S.2 84 i))) := ⟨_, rfl⟩
      have t1 : T'.1 = va_up Si.1 16 (nI (rf + i + 1)) := by rw [hT']; exact b2
      have t2 : ∀ p, p ≠ 41 → T'.2 p = T.2 p := fun p hp => by rw [hT']; exact cp_up_ne hp
      have t41 : T'.2 41 = upd (T.2 41) (rf + i) (S.2 84 i) := by rw [hT']; rfl
      obtain ⟨S', a1, a2⟩ := ih (i + 1) T' (by omega) (fun k hk => by rw [t1, cp_up_ne hk, h1 k hk]) (by rw [t1, va_up_at]; rfl) (fun p hp => by rw [t2 p (by omega), b3 p hp, h3 p hp]) (fun p p1 p2 x hx => by
        rcases (show p = 39 ∨ p = 40 ∨ p = 41 by omega) with rfl | rfl | rfl
        · rw [t2 39 (by decide), b4, pk_un (by omega)]; exact h4 39 (by omega) (by omega) x hx
        · rw [t2 40 (by decide), b5, pk_un (by omega)]; exact h4 40 (by omega) (by omega) x hx
        · rw [t41, pk_un (by omega), b6, pk_un (by omega)]; exact h4 41 (by omega) (by omega) x hx) (fun x hx => by
        rw [t2 39 (by decide), t2 40 (by decide), t41, b4, b5]
        by_cases e : x = i
        · rw [e, pk_us, pk_us, pk_us]; exact ⟨rfl, rfl, rfl⟩
        · rw [pk_un (by omega), pk_un (by omega), pk_un (by omega), b6, pk_un (by omega)]; exact h5 x (by omega))
      have v1 : vp_in (nI i) 101 := vp_in_nI (show i < 101 by omega) (by decide)
      refine ⟨S', b_M_lemma_110 ⟨fun q => ?_, fun _ => ⟨fun q => ?_, fun _ => ?_⟩⟩, a2⟩
      · rw [h1 82 (by decide), e82] at q
        exact absurd ((nI_leq (by omega) (by omega)).mp q) (by omega)
      · rw [h1 80 (by decide)] at q
        exact absurd e80 q
      · rw [nI_clamp (show i < 2 ^ 31 by omega), h3 82 (by omega), h3 83 (by omega)]
        refine ⟨v1, v1, nI (rf + i), T, b1, v1, vp_in_nI (show rf + i < 2720 by omega) (by decide), ?_⟩
        rw [nI_clamp (show rf + i < 2 ^ 31 by omega), b3 84 (by omega), h3 84 (by omega), ← hT', nI_1]
        exact a1
  obtain ⟨S', a1, a2⟩ := lp m 0 S (by omega) (fun _ _ => rfl) h16 (fun _ _ => rfl) (fun _ _ _ _ _ => rfl) (fun x hx => absurd hx (by omega))
  exact ⟨S', a1, a2⟩
end CPGC
