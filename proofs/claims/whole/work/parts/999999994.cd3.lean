/-! ===== reading codes: leaves, sums, both sides ===== -/
def CJR (X : Int32 × Int32 × Int32) (tx : Nat → Nat) (n rf f d : Nat) (K : cp_K) (S : cp_S) (l : List cp_I) (p n1 : Nat) : Prop :=
  (∃ (K' : cp_K) (S' : cp_S) (p' : Nat), KC (10 + 6 * f) m_Q_piece (fun G => [.ref (cp_b G + 21), .int 3, .int (nI d)]) K (fun G => some (va_rf (kr G 0))) K' ∧ K'.2.1 21 2 = nI p' ∧ (p ≤ p' ∧ p' ≤ n) ∧ BCK X n (some (.int (nI p'))) S' S p d ∧ KRX K.1.1 K.1.1 K K' ∧ RFX rf n1 l.length n1 S S' ∧ K'.1.1 ≤ K.1.1 + (p' - p)) ∨
  ∃ (K' : cp_K) (S' : cp_S) (p' n1' : Nat) (jk : List cp_I) (q : Nat), KC (10 + 6 * f) m_Q_piece (fun G => [.ref (cp_b G + 21), .int 3, .int (nI d)]) K (fun G => some (va_rf (kr G q))) K' ∧ (∀ r Sx, RD X n r Sx p' S' → BCK X n r Sx S p d) ∧ RJ tx n rf K' S' (jk ++ l) p' n1' ∧ JPK tx n p' jk ∧ RCD K' S'.2 rf f q n1 n1' K.1.1 K'.1.1 ∧ K'.2.2.1 q 6 = 0 ∧ KRX K.1.1 K.1.1 K K' ∧ RFX rf n1 l.length n1 S S' ∧ K'.1.1 ≤ K.1.1 + (p' - p) ∧ p < p'
section CPCD
variable {X : Int32 × Int32 × Int32} {tx : Nat → Nat} {n rf : Nat} {K : cp_K} {S : cp_S} {l : List cp_I} {p n1 d : Nat}
theorem pc_sgn {E r : Nat} {K' : cp_K} (rj : RJ tx n rf K S l p n1) (hp : p < n) (nv : ¬ isV (tx p)) (ndg : ¬ isD (tx p)) (nl : ¬ isL (tx p)) (k : KC (E + 7) m_Q_readSignedCode (fun G => [.ref (cp_b G + 21), .int (nI (tx p)), .int (nI d)]) K (fun G => some (va_rf (kr G r))) K') : KC (E + 8) m_Q_piece (fun G => [.ref (cp_b G + 21), .int 3, .int (nI d)]) K (fun G => some (va_rf (kr G r))) K' := by
  have hc : tx p < 200 := by have := (rj.2.2.2.1 p hp).1; omega
  refine c_Q_piece (D := E) ?_
  unfold wp_Q_piece_0
  rw [rj.pk hp]
  exact ⟨rj.1.2.2.1, fun _ => ⟨fun _ => ⟨fun _ => ⟨fun q => absurd rfl q, fun _ => ⟨r, K', k, rfl, rfl⟩⟩, fun q => absurd (ifL0 hc nl) q⟩, fun q => absurd (ifD0 hc ndg) q⟩, fun q => absurd (ifV0 hc nv) q⟩
theorem pc_leaf {x y : Int32} (rj : RJ tx n rf K S l p n1) (hp : p < n) (hk : (isV (tx p) ∧ x = 5 ∧ y = nI (tx p)) ∨ (isD (tx p) ∧ x = 1 ∧ y = nI (tx p - 48)) ∨ (tx p = 126 ∧ x = 13 ∧ y = 0)) : KC 9 m_Q_piece (fun G => [.ref (cp_b G + 21), .int 3, .int (nI d)]) K (fun G => some (va_rf (kr G K.1.1))) (qlf K x y) := by
  have hc : tx p < 200 := by have := (rj.2.2.2.1 p hp).1; omega
  rcases hk with ⟨k1, rfl, rfl⟩ | ⟨k1, rfl, rfl⟩ | ⟨k1, rfl, rfl⟩
  · refine c_Q_piece (D := 1) ?_
    unfold wp_Q_piece_0
    rw [rj.pk hp]
    exact ⟨rj.1.2.2.1, fun q => absurd q (ifV1 hc k1), fun _ => ⟨rfl, rfl⟩⟩
  · refine c_Q_piece (D := 1) ?_
    unfold wp_Q_piece_0
    rw [rj.pk hp, show nI (tx p) - 48 = nI (tx p - 48) from pk_sub (a := tx p) (b := 48) k1.1]
    exact ⟨rj.1.2.2.1, fun _ => ⟨fun q => absurd q (ifD1 hc k1), fun _ => ⟨rfl, rfl⟩⟩, fun q => absurd (ifV0 hc (fun h => by have := h.1; have := k1.2; omega)) q⟩
  · exact pc_sgn (E := 1) rj hp (fun h => by have := h.2; omega) (fun h => by have := h.2; omega) (fun h => by have := h.2; omega) (c_Q_readSignedCode (D := 0) ⟨fun q => absurd (by rw [k1]; rfl) q, fun _ => ⟨rfl, rfl⟩⟩)
/-- a leaf -/
theorem cj_leaf {f : Nat} {x y x' v : Int32} (rj : RJ tx n rf K S l p n1) (hp : p < n) (hk : (isV (tx p) ∧ (x = 5 ∧ y = nI (tx p)) ∧ x' = 1 ∧ v = nI (tx p - 97)) ∨ (isD (tx p) ∧ (x = 1 ∧ y = nI (tx p - 48)) ∧ x' = 2 ∧ v = nI (tx p - 48)) ∨ (tx p = 126 ∧ (x = 13 ∧ y = 0) ∧ x' = 10 ∧ v = nI (tx p - 48))) : CJR X tx n rf (f + 1) d K S l p n1 := by
  obtain ⟨⟨r1, r2, r3, r4⟩, ps, ⟨r5, r6, r7, r8, r9⟩, r10, r11⟩ := id rj
  have hc : tx p < 200 := by have := (r10 p hp).1; omega
  have kc : KC 9 m_Q_piece (fun G => [.ref (cp_b G + 21), .int 3, .int (nI d)]) K (fun G => some (va_rf (kr G K.1.1))) (qlf K x y) := pc_leaf rj hp (by
    rcases hk with ⟨h1, h2, -⟩ | ⟨h1, h2, -⟩ | ⟨h1, h2, -⟩
    · exact Or.inl ⟨h1, h2⟩
    · exact Or.inr (Or.inl ⟨h1, h2⟩)
    · exact Or.inr (Or.inr ⟨h1, h2⟩))
  have k0 : KRX K.1.1 K.1.1 K (qlf K x y) := KRX_leaf r4 (Nat.le_refl _) (Nat.le_refl _)
  have n0 : (qlf K x y).1.1 = K.1.1 + 1 := ql_n
  obtain ⟨w0, w1, w2, w3⟩ := ql_new (x := x) (y := y) r4
  obtain ⟨e1, e2, e3⟩ := nds_at (S := S) (n1 := n1) (rf := rf) (x := x') (v := v) (p := nI p)
  refine Or.inr ⟨qlf K x y, ndS S n1 rf x' v (nI p), p + 1, n1 + 1, [], K.1.1, kc.mono (by omega), fun r Sx w => bc_leaf (c := tx p) ps (by omega) r7 (by omega) (r10 p hp).2.2 hc ?_ w, rj.leaf hp, JPK.nil, ⟨⟨r4, by omega, ql_ts⟩, ⟨Nat.le_refl _, by omega⟩, ?_, ?_⟩, ql_rn, k0, nds_rfx, by omega, by omega⟩
  · rcases hk with ⟨h1, -, h2⟩ | ⟨h1, -, h2⟩ | ⟨h1, -, h2⟩
    · exact Or.inl ⟨h1, h2⟩
    · exact Or.inr (Or.inl ⟨h1, h2⟩)
    · exact Or.inr (Or.inr ⟨h1, h2⟩)
  · rw [w2, r1, nds_42, if_pos rfl]
  · rw [w0, w1, e1, e2]
    rcases hk with ⟨h1, ⟨h2, h3⟩, h4, h5⟩ | ⟨h1, ⟨h2, h3⟩, h4, h5⟩ | ⟨h1, ⟨h2, h3⟩, h4, h5⟩
    · have l1 := h1.1
      have l2 := h1.2
      exact Or.inl ⟨h2, h4, ⟨tx p - 97, by omega, by rw [h3]; congr 1; omega, h5⟩, rfl, ql_rn⟩
    · exact Or.inr (Or.inl ⟨h2, h4, by rw [h3, h5], rfl, ql_rn⟩)
    · exact Or.inr (Or.inr (Or.inl ⟨h2, h4, rfl, ql_rn⟩))
/-- no code -/
theorem cj_no {f : Nat} (rj : RJ tx n rf K S l p n1) (hp : p < n) (hd : d < 100) (nv : ¬ isV (tx p)) (ndg : ¬ isD (tx p)) (n126 : ¬ tx p = 126) (nl : ¬ isL (tx p)) (hs : d = 12 ∨ ¬ (tx p = 43 ∨ tx p = 45 ∨ tx p = 123 ∨ tx p = 91)) : CJR X tx n rf (f + 1) d K S l p n1 := by
  obtain ⟨⟨r1, r2, r3, r4⟩, ps, ⟨r5, r6, r7, r8, r9⟩, r10, r11⟩ := id rj
  have hc : tx p < 200 := by have := (r10 p hp).1; omega
  have ch : ∀ a, a < 200 → (nI (tx p) = nI a ↔ tx p = a) := fun a ha => nI_ch (by omega) (by omega)
  have kc : KC 8 m_Q_readSignedCode (fun G => [.ref (cp_b G + 21), .int (nI (tx p)), .int (nI d)]) K (fun G => some (va_rf (kr G 0))) K := by
    refine c_Q_readSignedCode (D := 0) ⟨fun _ => ⟨fun hlt => ?_, fun _ => ⟨rfl, rfl⟩⟩, fun q => absurd ((ch 126 (by omega)).mp q) n126⟩
    have hs' := hs.resolve_left (fun q => by rw [q] at hlt; exact absurd hlt (by decide))
    exact ⟨fun q => absurd (Or.inl ((ch 43 (by omega)).mp q)) hs', fun q => absurd (Or.inr (Or.inl ((ch 45 (by omega)).mp q))) hs', fun q => absurd (Or.inr (Or.inr (Or.inr ((ch 91 (by omega)).mp q)))) hs', fun q => absurd (Or.inr (Or.inr (Or.inl ((ch 123 (by omega)).mp q)))) hs', fun _ => ⟨rfl, rfl⟩⟩
  exact Or.inl ⟨K, S, p, (pc_sgn (E := 1) rj hp nv ndg nl kc).mono (by omega), r1, ⟨Nat.le_refl _, r6⟩, bc_no (r10 p hp).2.2 hc nv ndg n126 nl hd hs ⟨rfl, rfl⟩, KRX.refl, RFX.refl, by omega⟩
theorem ltd {d : Nat} (h : d < 12) : nI d < 12 := by
  have : (nI d < nI 12) := nI_lt (by omega) (by omega)
  exact this
/-- + and - -/
theorem cj_sum {f : Nat} {x x' : Int32} (hC : CJ X tx n rf f) (hdf : d + (f + 1) = 13) (hd : d < 12) (rj : RJ tx n rf K S l p n1) (hp : p < n) (hl : l.length ≤ 8 * d + 20) (hk : (tx p = 43 ∧ x = 7 ∧ x' = 6) ∨ (tx p = 45 ∧ x = 8 ∧ x' = 7)) : CJR X tx n rf (f + 1) d K S l p n1 := by
  obtain ⟨⟨r1, r2, r3, r4⟩, ps, ⟨r5, r6, r7, r8, r9⟩, r10, r11⟩ := id rj
  have hc : tx p = 43 ∨ tx p = 45 := by rcases hk with h | h; exact Or.inl h.1; exact Or.inr h.1
  obtain ⟨K0, hK0⟩ : ∃ K0 : cp_K, K0 = qlf K x 0 := ⟨_, rfl⟩
  have k0 : KRX K.1.1 K.1.1 K K0 := by rw [hK0]; exact KRX_leaf r4 (Nat.le_refl _) (Nat.le_refl _)
  have n0 : K0.1.1 = K.1.1 + 1 := by rw [hK0]; exact ql_n
  obtain ⟨w0, w1, w2, w3⟩ := ql_new (x := x) (y := 0) r4
  rw [← hK0] at w0 w1 w2 w3
  have wr : ∀ g, K0.2.2.1 K.1.1 g = 0 := fun g => by rw [hK0]; exact ql_rn
  have nd0 : nd K0 K.1.1 9 := ⟨r4, by omega, k0.2.2.1 _ (Nat.le_refl _) (by omega)⟩
  obtain ⟨S0, hS0⟩ : ∃ S0 : cp_S, S0 = pshS (pshS (ndS S n1 rf x' 0 (nI p)) l.length 210 (nI (d + 1)) 0) (l.length + 1) 210 (nI (d + 1)) 0 := ⟨_, rfl⟩
  have ps0 : PS S0 ([] ++ (210, nI (d + 1), 0) :: ((210, nI (d + 1), 0) :: l)) (n1 + 1) rf := by rw [hS0]; exact PS.push (l := (210, nI (d + 1), 0) :: l) (PS.push (PS.node ps))
  have f0 : RFX rf n1 l.length n1 S S0 := by rw [hS0]; exact (nds_rfx.trans (psh_rfx (i0 := n1) (Nat.le_refl _)) (Nat.le_refl _) (Nat.le_refl _) (Or.inl rfl)).trans (psh_rfx (i0 := n1) (Nat.le_succ _)) (Nat.le_refl _) (Nat.le_refl _) (Or.inl rfl)
  have s0 : ∀ q, q < 49 → S0.2 q = (ndS S n1 rf x' 0 (nI p)).2 q := fun q hq => by rw [hS0, psh_2 (by omega), psh_2 (by omega)]
  have rj0 : RJ tx n rf K0 S0 ([] ++ (210, nI (d + 1), 0) :: ((210, nI (d + 1), 0) :: l)) (p + 1) (n1 + 1) := by
    have := rj.leaf (x := x) (y := 0) (x' := x') (v := 0) hp
    rw [← hK0] at this
    exact this.mvz (KRX.refl (q0 := 0) (ql := 0)) (s0 27 (by omega)) ps0 this.1.1 (by omega) ⟨by omega, by omega⟩ (this.2.2.2.2.eq (fun z _ => by rw [s0 42 (by omega)]) (Nat.le_refl _)) (by omega)
  have bc : ∀ o Sx, RD X n o Sx (p + 1) S0 → BCK X n o Sx S p d := fun o Sx w => bc_sum (c := tx p) (x := x') ps (by omega) (by omega) r7 (by omega) hd (r10 p hp).2.2 (by rcases hk with h | h; exact Or.inl ⟨h.1, h.2.2⟩; exact Or.inr ⟨h.1, h.2.2⟩) (by rw [← hS0]; exact w)
  have kc : ∀ (r1 r2 : Nat) (T1 T2 : cp_K), KC (11 + 6 * f) m_Q_withPiece (fun G => [.ref (cp_b G + 21), va_rf (kr G K.1.1), .int 3, .int (nI (d + 1))]) K0 (fun G => some (va_rf (kr G r1))) T1 → KC (11 + 6 * f) m_Q_withPiece (fun G => [.ref (cp_b G + 21), va_rf (kr G r1), .int 3, .int (nI (d + 1))]) T1 (fun G => some (va_rf (kr G r2))) T2 → KC (10 + 6 * (f + 1)) m_Q_piece (fun G => [.ref (cp_b G + 21), .int 3, .int (nI d)]) K (fun G => some (va_rf (kr G r2))) T2 := fun r1 r2 T1 T2 u1 u2 => by
    have sm : KC (12 + 6 * f) m_Q_readSum (fun G => [.ref (cp_b G + 21), va_rf (kr G K.1.1), .int (nI d + 1)]) K0 (fun G => some (va_rf (kr G r2))) T2 := by
      rw [nI_1]
      exact (c_Q_readSum (D := 4 + 6 * f) ⟨r1, T1, u1.mono (by omega), r2, T2, u2.mono (by omega), rfl, rfl⟩).mono (by omega)
    rw [hK0] at sm
    refine (pc_sgn (E := 6 + 6 * f) rj hp (fun h => by have := h.1; omega) (fun h => by have := h.1; omega) (fun h => by have := h.1; omega) ((c_Q_readSignedCode (D := 5 + 6 * f) ⟨fun _ => ⟨fun _ => ⟨fun q => ?_, fun q => ?_, fun q => ?_, fun q => ?_, fun q => ?_⟩, fun q => absurd (ltd hd) q⟩, fun q => ?_⟩).mono (by omega))).mono (by omega)
    · rcases hk with h | h
      · rw [h.2.1] at sm
        exact ⟨r2, T2, sm.mono (by omega), rfl, rfl⟩
      · rw [h.1] at q; exact absurd q (by decide)
    · rcases hk with h | h
      · rw [h.1] at q; exact absurd q (by decide)
      · rw [h.2.1] at sm
        exact ⟨r2, T2, sm.mono (by omega), rfl, rfl⟩
    · rcases hc with h | h <;> rw [h] at q <;> exact absurd q (by decide)
    · rcases hc with h | h <;> rw [h] at q <;> exact absurd q (by decide)
    · rcases hc with h | h
      · exact absurd (by rw [h]; rfl) (q 43 (by decide))
      · exact absurd (by rw [h]; rfl) (q 45 (by decide))
    · rcases hc with h | h <;> rw [h] at q <;> exact absurd q (by decide)
  have nul : ∀ T : cp_K, KC (11 + 6 * f) m_Q_withPiece (fun G => [.ref (cp_b G + 21), va_rf (kr G 0), .int 3, .int (nI (d + 1))]) T (fun G => some (va_rf (kr G 0))) T := fun T => (c_Q_withPiece (D := 0) ⟨fun h => absurd rfl h, fun _ => ⟨rfl, rfl⟩⟩).mono (by omega)
  have ll : ((210, nI (d + 1), 0) :: l : List cp_I).length = l.length + 1 := List.length_cons
  rcases codeAt (q0 := K.1.1) (ql := K0.1.1) hC (by omega) (by omega) rj0 JPK.nil (by rw [ll]; omega) nd0 (Or.inl ⟨wr 5, rfl⟩) with ⟨K', S', p', a1, a2, a3, a4, a5, a6, a7⟩ | ⟨K1, S1, p1, n11, jk1, q1, a1, a2, a3, a4, a5, a6, ⟨a7, a8, a9, -⟩, a10, a11, a12, a13⟩
  · exact Or.inl ⟨K', S', p', kc 0 0 K' K' a1 (nul K'), a2, ⟨by omega, a3.2⟩, bc _ _ a4, k0.trans a5 (Or.inr (by omega)) (Or.inr (by omega)), f0.trans a6 (by omega) (by rw [ll]; omega) (Or.inr (by omega)), by omega⟩
  have lt1 := RCD.lt _ _ _ _ _ _ a5
  have k01 := a10.1
  have nq1 : nd K1 q1 9 := a5.nd
  have f1 : RFX rf n1 l.length n1 S S1 := f0.trans a11 (by omega) (by rw [ll]; omega) (Or.inr (by omega))
  rcases codeAt (q0 := K.1.1) (ql := q1) hC (by omega) (by omega) a3 a4 (by omega) (a10.nd nd0) (Or.inr ⟨a8, by omega, nq1⟩) with ⟨K', S', p', c1, c2, c3, c4, c5, c6, c7⟩ | ⟨K2, S2, p2, n12, jk2, q2, c1, c2, c3, c4, c5, c6, ⟨c7, c8, -, c9⟩, c10, c11, c12, c13⟩
  · exact Or.inl ⟨K', S', p', kc _ 0 K1 K' a1 c1, c2, ⟨by omega, c3.2⟩, bc _ _ (a2 _ _ c4), (k0.trans a10 (Or.inl rfl) (Or.inr (by omega))).trans c5 (Or.inr (by omega)) (Or.inr (by omega)), f1.trans c6 (by omega) (Nat.le_refl _) (Or.inr (by omega)), by omega⟩
  have lt2 := RCD.lt _ _ _ _ _ _ c5
  have k12 := c10.1
  have i2 : ∀ g, g ≠ 3 → K2.2.1 K.1.1 g = K0.2.1 K.1.1 g := fun g hg => by rw [c10.2.2.2.1 _ (by omega) (by omega) g (Or.inr hg), a10.2.2.2.1 _ (by omega) (by omega) g (Or.inr hg)]
  obtain ⟨d4, d6⟩ := c9 (by rw [a8]; omega)
  rw [a9 (wr 5)] at d4
  have fN : RFX rf (n1 + 1) l.length (n1 + 1) S0 S2 := (a11.wk (Nat.le_refl _) (by rw [ll]; omega) (Or.inl rfl)).trans c11 (by omega) (Nat.le_refl _) (Or.inr (by omega))
  have b0 : ∀ q, 39 ≤ q → q ≤ 41 → S2.2 q n1 = (ndS S n1 rf x' 0 (nI p)).2 q n1 := fun q q1' q2' => by rw [fN.2.2.1 q q1' q2' n1 (by omega) (Or.inl (by omega)), s0 q (by omega)]
  obtain ⟨e1, e2, e3⟩ := nds_at (S := S) (n1 := n1) (rf := rf) (x := x') (v := 0) (p := nI p)
  refine Or.inr ⟨K2, S2, p2, n12, jk2, K.1.1, kc _ _ K1 K2 a1 c1, fun r Sx w => bc _ _ (a2 _ _ (c2 r Sx w)), c3, c4, ⟨c10.nd (a10.nd nd0), ⟨Nat.le_refl _, by omega⟩, ?_, Or.inr (Or.inr (Or.inr (Or.inr (Or.inl ⟨?_, ⟨n11, K1.1.1, ?_, n12, K2.1.1, ?_, ?_⟩, ?_⟩))))⟩, ?_, (k0.trans a10 (Or.inl rfl) (Or.inr (by omega))).trans c10 (Or.inl rfl) (Or.inr (by omega)), f1.trans c11 (by omega) (Nat.le_refl _) (Or.inr (by omega)), by omega, by omega⟩
  · rw [i2 2 (by decide), w2, r1, fN.2.2.2.1 _ (by omega), s0 42 (by omega), nds_42, if_pos rfl]
  · rw [i2 0 (by decide), w0, b0 39 (by omega) (by omega), e1]
    rcases hk with h | h
    · exact Or.inl h.2
    · exact Or.inr h.2
  · rw [d4, ← n0]
    exact a5.kept c10 (Nat.le_refl _) (by omega) (Or.inl (by omega)) (Or.inl rfl) (c11.sab (Nat.le_refl _) (by omega) (Or.inr (Nat.le_refl _)))
  · rw [d4, d6]; exact c5
  · rw [d4, d6]; exact ⟨c6, rfl, Nat.le_refl _⟩
  · rw [d4, d6]; exact c8
  · rw [c10.2.2.2.2.2.1 K.1.1 (by omega) 6 (Or.inr ⟨by decide, by decide⟩) (Or.inl (by omega)), a10.2.2.2.2.2.1 K.1.1 (by omega) 6 (Or.inr ⟨by decide, by decide⟩) (Or.inl (by omega))]; exact wr 6
end CPCD
