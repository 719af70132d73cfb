/-! ===== reading codes: the choice, both sides ===== -/
abbrev WPC (z d : Nat) : cp_G → List Value := fun G => [.ref (cp_b G + 21), va_rf (kr G z), .int 3, .int (nI (d + 1))]
/-- behind the relation: the class -/
def CHT (f d z : Nat) (K5 : cp_K) (r : Nat) (K' : cp_K) : Prop := ∃ r1 T1, KC (11 + 6 * f) m_Q_withPiece (WPC z d) K5 (fun G => some (va_rf (kr G r1))) T1 ∧ (r1 = 0 → r = 0 ∧ K' = T1) ∧ (¬ r1 = 0 → qok T1 ∧ (¬ qpk T1 = 63 → r = 0 ∧ K' = T1) ∧ (qpk T1 = 63 → ∃ r2 T2, KC (11 + 6 * f) m_Q_withPiece (WPC z d) (qtk T1 63) (fun G => some (va_rf (kr G r2))) T2 ∧ (r2 = 0 → r = 0 ∧ K' = T2) ∧ (¬ r2 = 0 → qok T2 ∧ (¬ qpk T2 = 58 → r = 0 ∧ K' = T2) ∧ (qpk T2 = 58 → ∃ r3 T3, KC (11 + 6 * f) m_Q_withPiece (WPC z d) (qtk T2 58) (fun G => some (va_rf (kr G r3))) T3 ∧ (r3 = 0 → r = 0 ∧ K' = T3) ∧ (¬ r3 = 0 → qok T3 ∧ (¬ qpk T3 = 93 → r = 0 ∧ K' = T3) ∧ (qpk T3 = 93 → r = z ∧ K' = qtk T3 93))))))
def CHW (D : Nat) (o : cp_G → cp_O) (K' : cp_K) (z : Nat) (x1 : Int32) (K5 : cp_K) : Prop := ∃ r6 T4, KC (D + 7) m_Q_withPiece (fun G => [.ref (cp_b G + 21), va_rf (kr G z), .int 3, .int x1]) K5 (fun G => some (va_rf (kr G r6))) T4 ∧ ((r6 = (0 : Nat) → (o = (fun G => .inl (some (va_rf (kr G 0)))) ∧ K' = T4)) ∧ (¬ r6 = (0 : Nat) → qok T4 ∧ ((((if qpk T4 = 63 then 1 else 0) : Int32) = 0 → (o = (fun G => .inl (some (va_rf (kr G 0)))) ∧ K' = (qtk T4 63))) ∧ (¬ ((if qpk T4 = 63 then 1 else 0) : Int32) = 0 → ∃ r10 T8, KC (D + 7) m_Q_withPiece (fun G => [.ref (cp_b G + 21), va_rf (kr G z), .int 3, .int x1]) (qtk T4 63) (fun G => some (va_rf (kr G r10))) T8 ∧ ((r10 = (0 : Nat) → (o = (fun G => .inl (some (va_rf (kr G 0)))) ∧ K' = T8)) ∧ (¬ r10 = (0 : Nat) → qok T8 ∧ ((((if qpk T8 = 58 then 1 else 0) : Int32) = 0 → (o = (fun G => .inl (some (va_rf (kr G 0)))) ∧ K' = (qtk T8 58))) ∧ (¬ ((if qpk T8 = 58 then 1 else 0) : Int32) = 0 → ∃ r14 T12, KC (D + 7) m_Q_withPiece (fun G => [.ref (cp_b G + 21), va_rf (kr G z), .int 3, .int x1]) (qtk T8 58) (fun G => some (va_rf (kr G r14))) T12 ∧ ((r14 = (0 : Nat) → (o = (fun G => .inl (some (va_rf (kr G 0)))) ∧ K' = T12)) ∧ (¬ r14 = (0 : Nat) → qok T12 ∧ ((((if qpk T12 = 93 then 1 else 0) : Int32) = 0 → (o = (fun G => .inl (some (va_rf (kr G 0)))) ∧ K' = (qtk T12 93))) ∧ (¬ ((if qpk T12 = 93 then 1 else 0) : Int32) = 0 → (o = (fun G => .inl (some (va_rf (kr G z)))) ∧ K' = (qtk T12 93))))))))))))))
theorem cht_chw {f d z r : Nat} {K5 K' : cp_K} (h : CHT f d z K5 r K') : CHW (4 + 6 * f) (fun G => .inl (some (va_rf (kr G r)))) K' z (nI (d + 1)) K5 := by
  obtain ⟨r1, T1, a1, a2, a3⟩ := h
  refine ⟨r1, T1, a1.mono (by omega), fun q => ?_, fun q => ?_⟩
  · obtain ⟨e1, e2⟩ := a2 q
    rw [e1, e2]; exact ⟨rfl, rfl⟩
  obtain ⟨b1, b2, b3⟩ := a3 q
  by_cases e63 : qpk T1 = 63
  · refine ⟨b1, fun q => absurd q (ife1 e63), fun _ => ?_⟩
    obtain ⟨r2, T2, c1, c2, c3⟩ := b3 e63
    refine ⟨r2, T2, c1.mono (by omega), fun q => ?_, fun q => ?_⟩
    · obtain ⟨e1, e2⟩ := c2 q
      rw [e1, e2]; exact ⟨rfl, rfl⟩
    obtain ⟨d1, d2, d3⟩ := c3 q
    by_cases e58 : qpk T2 = 58
    · refine ⟨d1, fun q => absurd q (ife1 e58), fun _ => ?_⟩
      obtain ⟨r3, T3, g1, g2, g3⟩ := d3 e58
      refine ⟨r3, T3, g1.mono (by omega), fun q => ?_, fun q => ?_⟩
      · obtain ⟨e1, e2⟩ := g2 q
        rw [e1, e2]; exact ⟨rfl, rfl⟩
      obtain ⟨h1, h2, h3⟩ := g3 q
      by_cases e93 : qpk T3 = 93
      · refine ⟨h1, fun q => absurd q (ife1 e93), fun _ => ?_⟩
        obtain ⟨e1, e2⟩ := h3 e93
        rw [e1, e2]; exact ⟨rfl, rfl⟩
      · refine ⟨h1, fun _ => ?_, fun q => absurd (ife0 e93) q⟩
        obtain ⟨e1, e2⟩ := h2 e93
        rw [e1, e2, qtk_ne e93]; exact ⟨rfl, rfl⟩
    · refine ⟨d1, fun _ => ?_, fun q => absurd (ife0 e58) q⟩
      obtain ⟨e1, e2⟩ := d2 e58
      rw [e1, e2, qtk_ne e58]; exact ⟨rfl, rfl⟩
  · refine ⟨b1, fun _ => ?_, fun q => absurd (ife0 e63) q⟩
    obtain ⟨e1, e2⟩ := b2 e63
    rw [e1, e2, qtk_ne e63]; exact ⟨rfl, rfl⟩
section CPCH
variable {X : Int32 × Int32 × Int32} {tx : Nat → Nat} {n rf : Nat}
/-- behind the relation, both sides -/
theorem cho_tail {f d : Nat} {K : cp_K} {S : cp_S} {l : List cp_I} {p n1 z qL : Nat} (hC : CJ X tx n rf f) (hdf : d + 1 + f = 13) (rj : RJ tx n rf K S ([] ++ (210, nI (d + 1), 0) :: ((nI 63, 0, 0) :: (210, nI (d + 1), 0) :: (nI 58, 0, 0) :: (210, nI (d + 1), 0) :: (nI 93, 0, 0) :: l)) p n1) (hl : l.length ≤ 8 * d + 20) (hz : nd K z 9) (h5 : K.2.2.1 z 5 = qL) (hqL : qL ≠ z) (nL : nd K qL 9) :
    (∃ (K' : cp_K) (S' : cp_S) (p' : Nat), CHT f d z K 0 K' ∧ K'.2.1 21 2 = nI p' ∧ (p ≤ p' ∧ p' ≤ n) ∧ RD X n (some (.int (nI p'))) S' p S ∧ KRX z qL K K' ∧ RFX rf n1 l.length n1 S S' ∧ K'.1.1 ≤ K.1.1 + (p' - p)) ∨
    ∃ (K' : cp_K) (S' : cp_S) (p' n1' q2 : Nat), CHT f d z K z K' ∧ (∀ r Sx, RD X n r Sx p' S' → RD X n r Sx p S) ∧ RJ tx n rf K' S' l p' n1' ∧ K'.2.2.1 qL 6 = q2 ∧ RCC (RCD K' S'.2 rf f) K' 3 q2 n1 n1' K.1.1 K'.1.1 ∧ K'.2.2.1 z 4 = K.2.2.1 z 4 ∧ K'.2.2.1 z 5 = K'.2.2.1 (K'.2.2.1 q2 6) 6 ∧ KRX z qL K K' ∧ RFX rf n1 l.length n1 S S' ∧ K'.1.1 ≤ K.1.1 + (p' - p) ∧ p < p' := by
  have zlt := hz.2.1
  have z86 := hz.1
  have L86 := nL.1
  have Llt := nL.2.1
  obtain ⟨-, -, ⟨r5, r6, r7, r8, r9⟩, -, -⟩ := id rj
  rcases codeAt (q0 := z) (ql := qL) hC (by omega) (by omega) rj JPK.nil (by simp only [List.length_cons]; omega) hz (Or.inr ⟨h5, hqL, nL⟩) with ⟨K', S', p', a1, a2, a3, a4, a5, a6, a7⟩ | ⟨K1, S1, p1, n11, jk1, q1, a1, a2, a3, a4, a5, a6, ⟨a7, a8, -, a9⟩, a10, a11, a12, a13⟩
  · exact Or.inl ⟨K', S', p', ⟨0, K', a1, fun _ => ⟨rfl, rfl⟩, fun q => absurd rfl q⟩, a2, a3, a4, KRX.trans KRX.refl a5 (Or.inr (Nat.le_refl _)) (Or.inr (Nat.le_refl _)), a6.wk (Nat.le_refl _) (by simp only [List.length_cons]; omega) (Or.inl rfl), a7⟩
  obtain ⟨e14, e16⟩ := a9 (by rw [h5]; omega)
  have lt1 := RCD.lt _ _ _ _ _ _ a5
  have le1 := a10.1
  have nz : ¬ z = 0 := by omega
  have ok1 := a3.1.2.2.1
  have f1 : RFX rf n1 l.length n1 S S1 := a11.wk (Nat.le_refl _) (by simp only [List.length_cons]; omega) (Or.inl rfl)
  rcases chrAt (X := X) (wc := 63) a3 a4 (by omega) (by omega) (by simp only [List.length_cons]; omega) with ⟨b1, b2, T, b3, b4, b5, b6⟩ | ⟨b1, T, b2, b3⟩
  case inr =>
    exact Or.inl ⟨K1, T, p1, ⟨z, K1, a1, fun q => absurd q nz, fun _ => ⟨ok1, fun _ => ⟨rfl, rfl⟩, fun q => absurd q b1⟩⟩, a3.1.1, ⟨by omega, a3.2.2.1.2.1⟩, a2 _ _ b3, a10, f1.trans (b2.rfx (n1 := n1) (i0 := n1)) (Nat.le_refl _) (Nat.le_refl _) (Or.inl rfl), a12⟩
  have b1' : qpk K1 = 63 := b1
  have b3' : qtk K1 63 = kI K1 21 2 (nI (p1 + 1)) := b3
  obtain ⟨K1b, hK1b⟩ : ∃ K1b : cp_K, K1b = kI K1 21 2 (nI (p1 + 1)) := ⟨_, rfl⟩
  rw [← hK1b] at b3' b4
  have k1b : ∀ x y, KRX x y K1 K1b := fun x y => by rw [hK1b]; exact KRX_at
  have n1b : K1b.1.1 = K1.1.1 := by rw [hK1b]; rfl
  have rr1 : ∀ x g, K1b.2.2.1 x g = K1.2.2.1 x g := fun x g => by rw [hK1b]; rfl
  have t1 : ∀ r K', (∃ r2 T2, KC (11 + 6 * f) m_Q_withPiece (WPC z d) K1b (fun G => some (va_rf (kr G r2))) T2 ∧ (r2 = 0 → r = 0 ∧ K' = T2) ∧ (¬ r2 = 0 → qok T2 ∧ (¬ qpk T2 = 58 → r = 0 ∧ K' = T2) ∧ (qpk T2 = 58 → ∃ r3 T3, KC (11 + 6 * f) m_Q_withPiece (WPC z d) (qtk T2 58) (fun G => some (va_rf (kr G r3))) T3 ∧ (r3 = 0 → r = 0 ∧ K' = T3) ∧ (¬ r3 = 0 → qok T3 ∧ (¬ qpk T3 = 93 → r = 0 ∧ K' = T3) ∧ (qpk T3 = 93 → r = z ∧ K' = qtk T3 93))))) → CHT f d z K r K' := fun r K' w => ⟨z, K1, a1, fun q => absurd q nz, fun _ => ⟨ok1, fun q => absurd b1' q, fun _ => by rw [b3']; exact w⟩⟩
  have f1b : RFX rf n1 l.length n1 S T := f1.trans (b5.rfx (n1 := n1) (i0 := n1)) (Nat.le_refl _) (Nat.le_refl _) (Or.inl rfl)
  have nq1 : nd K1 q1 9 := a5.nd
  rcases codeAt (jk := []) (q0 := z) (ql := q1) hC (by omega) (by omega) b4 JPK.nil (by simp only [List.length_cons]; omega) ((k1b 0 0).nd (a10.nd hz)) (Or.inr ⟨by rw [rr1]; exact a8, by omega, (k1b 0 0).nd nq1⟩) with ⟨K', S', p', c1, c2, c3, c4, c5, c6, c7⟩ | ⟨K2, S2, p2, n12, jk2, q2, c1, c2, c3, c4, c5, c6, ⟨c7, c8, -, c9⟩, c10, c11, c12, c13⟩
  · exact Or.inl ⟨K', S', p', t1 0 K' ⟨0, K', c1, fun _ => ⟨rfl, rfl⟩, fun q => absurd rfl q⟩, c2, ⟨by omega, c3.2⟩, a2 _ _ (b6 _ _ c4), (a10.trans (k1b z qL) (Or.inl rfl) (Or.inl rfl)).trans c5 (Or.inr (by omega)) (Or.inr (by omega)), f1b.trans (c6.wk (Nat.le_refl _) (by simp only [List.length_cons]; omega) (Or.inl rfl)) (by omega) (Nat.le_refl _) (Or.inr (by omega)), by omega⟩
  rw [n1b] at c5 c12
  obtain ⟨e24, e26⟩ := c9 (by rw [rr1, a8]; omega)
  rw [rr1] at e24
  have lt2 := RCD.lt _ _ _ _ _ _ c5
  have le2 := c10.1
  have ok2 := c3.1.2.2.1
  have k12 : KRX z q1 K1 K2 := (k1b z q1).trans c10 (Or.inl rfl) (Or.inl rfl)
  have k02 : KRX z qL K K2 := a10.trans k12 (Or.inl rfl) (Or.inr (by omega))
  have f2' : RFX rf n11 l.length n11 S1 S2 := (b5.rfx (n1 := n11) (len := l.length) (i0 := n11)).trans (c11.wk (Nat.le_refl _) (by simp only [List.length_cons]; omega) (Or.inl rfl)) (Nat.le_refl _) (Nat.le_refl _) (Or.inl rfl)
  have f2 : RFX rf n1 l.length n1 S S2 := f1.trans f2' (by omega) (Nat.le_refl _) (Or.inr (by omega))
  have rd2 : ∀ r Sx, RD X n r Sx p2 S2 → RD X n r Sx p S := fun r Sx w => a2 _ _ (b6 _ _ (c2 _ _ w))
  rcases chrAt (X := X) (wc := 58) c3 c4 (by omega) (by omega) (by simp only [List.length_cons]; omega) with ⟨d1, d2, U, d3, d4, d5, d6⟩ | ⟨d1, U, d2, d3⟩
  case inr =>
    exact Or.inl ⟨K2, U, p2, t1 0 K2 ⟨z, K2, c1, fun q => absurd q nz, fun _ => ⟨ok2, fun _ => ⟨rfl, rfl⟩, fun q => absurd q d1⟩⟩, c3.1.1, ⟨by omega, c3.2.2.1.2.1⟩, rd2 _ _ d3, k02, f2.trans (d2.rfx (n1 := n1) (i0 := n1)) (Nat.le_refl _) (Nat.le_refl _) (Or.inl rfl), by omega⟩
  have d1' : qpk K2 = 58 := d1
  have d3' : qtk K2 58 = kI K2 21 2 (nI (p2 + 1)) := d3
  obtain ⟨K2b, hK2b⟩ : ∃ K2b : cp_K, K2b = kI K2 21 2 (nI (p2 + 1)) := ⟨_, rfl⟩
  rw [← hK2b] at d3' d4
  have k2b : ∀ x y, KRX x y K2 K2b := fun x y => by rw [hK2b]; exact KRX_at
  have n2b : K2b.1.1 = K2.1.1 := by rw [hK2b]; rfl
  have rr2 : ∀ x g, K2b.2.2.1 x g = K2.2.2.1 x g := fun x g => by rw [hK2b]; rfl
  have t2 : ∀ r K', (∃ r3 T3, KC (11 + 6 * f) m_Q_withPiece (WPC z d) K2b (fun G => some (va_rf (kr G r3))) T3 ∧ (r3 = 0 → r = 0 ∧ K' = T3) ∧ (¬ r3 = 0 → qok T3 ∧ (¬ qpk T3 = 93 → r = 0 ∧ K' = T3) ∧ (qpk T3 = 93 → r = z ∧ K' = qtk T3 93))) → CHT f d z K r K' := fun r K' w => t1 r K' ⟨z, K2, c1, fun q => absurd q nz, fun _ => ⟨ok2, fun q => absurd d1' q, fun _ => by rw [d3']; exact w⟩⟩
  have f2b : RFX rf n1 l.length n1 S U := f2.trans (d5.rfx (n1 := n1) (i0 := n1)) (Nat.le_refl _) (Nat.le_refl _) (Or.inl rfl)
  have nq2 : nd K2 q2 9 := c5.nd
  rcases codeAt (jk := []) (q0 := z) (ql := q2) hC (by omega) (by omega) d4 JPK.nil (by simp only [List.length_cons]; omega) ((k2b 0 0).nd (k02.nd hz)) (Or.inr ⟨by rw [rr2]; exact c8, by omega, (k2b 0 0).nd nq2⟩) with ⟨K', S', p', g1, g2, g3, g4, g5, g6, g7⟩ | ⟨K3, S3, p3, n13, jk3, q3, g1, g2, g3, g4, g5, g6, ⟨g7, g8, -, g9⟩, g10, g11, g12, g13⟩
  · exact Or.inl ⟨K', S', p', t2 0 K' ⟨0, K', g1, fun _ => ⟨rfl, rfl⟩, fun q => absurd rfl q⟩, g2, ⟨by omega, g3.2⟩, rd2 _ _ (d6 _ _ g4), (k02.trans (k2b z qL) (Or.inl rfl) (Or.inl rfl)).trans g5 (Or.inr (by omega)) (Or.inr (by omega)), f2b.trans (g6.wk (Nat.le_refl _) (by simp only [List.length_cons]; omega) (Or.inl rfl)) (by omega) (Nat.le_refl _) (Or.inr (by omega)), by omega⟩
  rw [n2b] at g5 g12
  obtain ⟨e34, e36⟩ := g9 (by rw [rr2, c8]; omega)
  rw [rr2] at e34
  have lt3 := RCD.lt _ _ _ _ _ _ g5
  have le3 := g10.1
  have ok3 := g3.1.2.2.1
  have k23 : KRX z q2 K2 K3 := (k2b z q2).trans g10 (Or.inl rfl) (Or.inl rfl)
  have k03 : KRX z qL K K3 := k02.trans k23 (Or.inl rfl) (Or.inr (by omega))
  have f3' : RFX rf n12 l.length n12 S2 S3 := (d5.rfx (n1 := n12) (len := l.length) (i0 := n12)).trans (g11.wk (Nat.le_refl _) (by simp only [List.length_cons]; omega) (Or.inl rfl)) (Nat.le_refl _) (Nat.le_refl _) (Or.inl rfl)
  have f3 : RFX rf n1 l.length n1 S S3 := f2.trans f3' (by omega) (Nat.le_refl _) (Or.inr (by omega))
  have rd3 : ∀ r Sx, RD X n r Sx p3 S3 → RD X n r Sx p S := fun r Sx w => rd2 _ _ (d6 _ _ (g2 _ _ w))
  rcases chrAt (X := X) (wc := 93) g3 g4 (by omega) (by omega) (by omega) with ⟨h1, h2, V, h3, h4, h5', h6⟩ | ⟨h1, V, h2, h3⟩
  case inr =>
    exact Or.inl ⟨K3, V, p3, t2 0 K3 ⟨z, K3, g1, fun q => absurd q nz, fun _ => ⟨ok3, fun _ => ⟨rfl, rfl⟩, fun q => absurd q h1⟩⟩, g3.1.1, ⟨by omega, g3.2.2.1.2.1⟩, rd3 _ _ h3, k03, f3.trans (h2.rfx (n1 := n1) (i0 := n1)) (Nat.le_refl _) (Nat.le_refl _) (Or.inl rfl), by omega⟩
  have h1' : qpk K3 = 93 := h1
  have h3' : qtk K3 93 = kI K3 21 2 (nI (p3 + 1)) := h3
  obtain ⟨K4, hK4⟩ : ∃ K4 : cp_K, K4 = kI K3 21 2 (nI (p3 + 1)) := ⟨_, rfl⟩
  rw [← hK4] at h3' h4
  have k34 : ∀ x y, KRX x y K3 K4 := fun x y => by rw [hK4]; exact KRX_at
  have n4 : K4.1.1 = K3.1.1 := by rw [hK4]; rfl
  have rr4 : ∀ x g, K4.2.2.1 x g = K3.2.2.1 x g := fun x g => by rw [hK4]; rfl
  have k24 : KRX z q2 K2 K4 := k23.trans (k34 z q2) (Or.inl rfl) (Or.inl rfl)
  have k14 : KRX z q1 K1 K4 := k12.trans k24 (Or.inl rfl) (Or.inr (by omega))
  -- next fields at the end
  have x1 : K4.2.2.1 qL 6 = q1 := by rw [k14.2.2.2.2.2.1 qL (by omega) 6 (Or.inl hqL) (Or.inl (by omega))]; exact e16
  have x2 : K4.2.2.1 q1 6 = q2 := by rw [k24.2.2.2.2.2.1 q1 (by omega) 6 (Or.inl (by omega)) (Or.inl (by omega))]; exact e26
  have x3 : K4.2.2.1 q2 6 = q3 := by rw [rr4]; exact e36
  have x4 : K4.2.2.1 q3 6 = 0 := by rw [rr4]; exact g6
  have fv : RFX rf n12 l.length n12 S2 V := f3'.trans (h5'.rfx (n1 := n12) (len := l.length) (i0 := n12)) (Nat.le_refl _) (Nat.le_refl _) (Or.inl rfl)
  have fv1 : RFX rf n11 l.length n11 S1 V := f2'.trans fv (by omega) (Nat.le_refl _) (Or.inr (by omega))
  refine Or.inr ⟨K4, V, p3 + 1, n13, q1, t2 z K4 ⟨z, K3, g1, fun q => absurd q nz, fun _ => ⟨ok3, fun q => absurd h1' q, fun _ => ⟨rfl, h3'.symm⟩⟩⟩, fun r Sx w => rd3 _ _ (h6 _ _ w), h4, x1, ⟨n11, K1.1.1, ?_, n12, K2.1.1, ?_, n13, K3.1.1, ?_, ?_, rfl, by omega⟩, ?_, ?_, k03.trans (k34 z qL) (Or.inl rfl) (Or.inl rfl), f3.trans (h5'.rfx (n1 := n1) (i0 := n1)) (Nat.le_refl _) (Nat.le_refl _) (Or.inl rfl), by omega, by omega⟩
  · exact a5.kept k14 (Nat.le_refl _) (by omega) (Or.inl (by omega)) (Or.inl rfl) (fv1.sab (Nat.le_refl _) (by omega) (Or.inr (Nat.le_refl _)))
  · rw [x2]
    exact c5.kept k24 (Nat.le_refl _) (by omega) (Or.inl (by omega)) (Or.inl rfl) (fv.sab (Nat.le_refl _) (by omega) (Or.inr (Nat.le_refl _)))
  · rw [x2, x3]
    exact g5.kept (k34 z q3) (Nat.le_refl _) (by omega) (Or.inl (by omega)) (Or.inl rfl) (fun x _ _ => by rw [h5'.2]; exact ⟨rfl, rfl, rfl, rfl⟩)
  · rw [x2, x3]; exact x4
  · rw [rr4, e34, e24, e14]
  · rw [x2, x3, rr4]; exact g8
end CPCH
