/-! ===== declarations: both sides look through the parts ===== -/
abbrev LI (res x2 : Int32) (pt : Nat) : List (Nat × Value) := [(1, .int res), (2, .int x2), (3, .int (nI pt))]
def DPR (ar : Nat → Nat) (rf : Nat) (pl : Nat → Nat → Prop) (k p1 z j j2 : Nat) (res : Int32) (rem : Nat) : Prop := ∀ (q pt i u own : Nat) (sc : Nat → Prop) (K : cp_K) (S : cp_S) (ρ : Nat → Nat → Prop) (nv nc n : Nat), TST ar rf pl n n K S ρ nv nc [] 0 0 L0 → FIX K S ρ pt → RPT K S.2 pl k z rem q pt i j → RRS K S.2 pl k z j j2 res → S.1 33 = nI (pt + rem) → S.1 61 = nI own → ¬ S.1 58 = 0 → (∀ c, c < 26 → ¬ S.2 64 c = -1 → sc c) → gH S.2 j2 = gH S.2 i → (rem ≤ 6 ∧ n + rem ≤ 100 ∧ pt + rem < 180 ∧ own + rem ≤ 100) → (j ≤ j2 ∧ j2 < 2720 ∧ j2 - i ≤ 100) → (nv ≤ u ∧ nc ≤ u) → (∀ Y, Y ≤ 5 * rem + 1 → Y ≤ gL S.2 j2 - gL S.2 i → u + 100 * Y + 100 * (gI S.2 j2 - gI S.2 i) + (k + 4) * (j2 - i) + rem ≤ 5590) → rsz K 7 + 6500 * (j2 - i) + 10 * rem + 10 < 1040000 →
  (∃ (K' : cp_K) (S' : cp_S) (y : Int32), JC 371 m_T_wrongInDeclaration (fun _ => .inl (some (.int y))) K' 10 (LW p1 q) (fun _ => []) K ∧ JJ 9 m_M_isRight (some (.int 0)) (va_up S'.1 58 0, S'.2) 25 (LI res 1 pt) S ∧ BDW K S K' S' y) ∨
  ∃ (K' : cp_K) (S' : cp_S) (m d : Nat), JC 371 m_T_wrongInDeclaration (fun _ => .inl (some (.int (-1)))) K' 10 (LW p1 q) (fun _ => []) K ∧ JJ 9 m_M_isRight (some (.int 1)) (va_up S'.1 58 0, S'.2) 25 (LI res 1 pt) S ∧ DFR K S K' S' ∧ BND K' ∧ PTS K' S'.2 ar k z (RSX K' S'.2 ar k res z) rem q pt sc m d ∧ S'.1 61 = nI (own + m) ∧ d ≤ j2 - i ∧ m ≤ rem
section CPDQ
variable {ar : Nat → Nat} {rf : Nat} {pl : Nat → Nat → Prop} {k p1 z j j2 : Nat} {res : Int32}
theorem RSX.mv {K K' : cp_K} {b b' : Nat → Nat → Int32} {sc : Nat → Prop} {d : Nat} (hK : NK K K') (hb : BK b b') (h : RSX K b ar k res z sc d) : RSX K' b' ar k res z sc d := by
  obtain ⟨h1, h2, h3⟩ := h
  unfold RSX
  rw [hK.2.1, hK.1 _ 0 h2.1]
  refine ⟨hK.2.2 _ _ h1, hK.2.2 _ _ h2, ?_⟩
  rcases h3 with h3 | ⟨i, j, h3, h4, h5⟩
  · exact Or.inl h3
  · exact Or.inr ⟨i, j, h3, h4.mv hK hb, h5⟩
theorem dpr_0 (hk : k ≤ 9) : DPR ar rf pl k p1 z j j2 res 0 := by
  intro q pt i u own sc K S ρ nv nc n st fx rpt rrs h33 h61 h58 hsc hH ⟨hr6, hn, hpt, hown⟩ ⟨hjj, hj2, hji⟩ hu hY h7
  obtain ⟨rfl, rfl⟩ := rpt
  obtain ⟨z1, z2, z3, z4, z5, z6⟩ := rrs
  have q0 : ¬ q = 0 := by have := z1.1; omega
  have f0 : ¬ K.2.2.1 q 4 = 0 := by have := z4.1; omega
  have s15 : ¬ K.2.1 q 0 = 15 := by rw [z2]; decide
  have s14 : ¬ K.2.1 q 0 = 14 := by rw [z2]; decide
  have cin : ∀ (o : cp_G → cp_O) (Kx : cp_K), JC 371 m_T_wrongInDeclaration o Kx 52 (LD p1 q 0 (K.2.2.1 q 4)) (fun _ => []) K → JC 371 m_T_wrongInDeclaration o Kx 10 (LW p1 q) (fun _ => []) K := fun o Kx w => b_T_wrongInDeclaration_10 (D := 363) ⟨fun h => absurd h q0, fun _ => ⟨z1, fun _ => b_T_wrongInDeclaration_46 ⟨z1, w⟩, fun h => absurd h s15⟩⟩
  have cout : ∀ (K' : cp_K), NK K K' → JC 371 m_T_wrongInDeclaration (fun _ => .inl (some (.int (-1)))) K' 52 (LD p1 q 0 0) (fun _ => []) K' := fun K' nk => b_T_wrongInDeclaration_52 (D := 363) ⟨fun _ => ⟨nk.2.2 _ _ z1, fun _ => b_T_wrongInDeclaration_122 ⟨nk.2.2 _ _ z1, by rw [nk.2.1, z3]; exact b_T_wrongInDeclaration_10 (D := 363) ⟨fun _ => ⟨rfl, rfl⟩, fun h => absurd rfl h⟩⟩, fun h => absurd (by rw [nk.1 q 0 z1.1] at h; exact h) s14⟩, fun h => absurd rfl h⟩
  have r25 : ∀ (o : Option Value) (Sx : cp_S), JJ 9 m_M_isRight o Sx 135 (LI res 1 pt) S → JJ 9 m_M_isRight o Sx 25 (LI res 1 pt) S := fun o Sx w => b_M_isRight_25 ⟨fun _ => w, fun h => absurd (by rw [h33]; exact nI_le (by omega) (by omega)) h⟩
  rcases z6 with ⟨w1, w2, w3⟩ | ⟨w1, ht⟩
  · -- the star
    obtain ⟨Ka, hKa⟩ : ∃ Ka : cp_K, Ka = kI (mks K (K.2.1 (K.2.2.1 q 4) 0) 0) 24 7 (nI (rsz K 7)) := ⟨_, rfl⟩
    have ka7 : rsz Ka 7 = rsz K 7 + 3 := by rw [hKa]; show rsz (mks K (K.2.1 (K.2.2.1 q 4) 0) 0) 7 = _; rw [mks_sz, if_pos rfl]
    have k17 : rsz (mks Ka 3 0) 7 = rsz K 7 + 6 := by rw [mks_sz, if_pos rfl, ka7]
    have kx : KX K (mks Ka 3 0) := ((KX.of (KF.mks (x := K.2.1 (K.2.2.1 q 4) 0) (y := 0)) (by decide)).trans (by rw [hKa]; exact KX.put (Or.inr ⟨rfl, by decide, by decide⟩))).trans (KX.of KF.mks (by decide))
    have ro : ∀ q', q' ≠ 7 → rsz (mks Ka 3 0) q' = rsz K q' := fun q' hq => by
      rw [mks_sz, if_neg hq, hKa]; show rsz (mks K (K.2.1 (K.2.2.1 q 4) 0) 0) q' = _; rw [mks_sz, if_neg hq]
    have nk := kx.nk
    have hne : ∀ {c' : Int32} {P : Prop}, 3 ≠ c' → K.2.1 (K.2.2.1 q 4) 0 = c' → P := fun {_ _} h1 h2 => absurd (w1.symm.trans h2) h1
    have kty : KC 370 m_T_typeOf (fun G => [.ref (cp_b G + 24), va_rf (kr G (K.2.2.1 q 4))]) K (fun _ => some (.int (nI (rsz K 7 + 3)))) (mks Ka 3 0) := by
      refine c_T_typeOf (D := 362) ⟨z4, fun h => hne (by decide) h, fun h => hne (by decide) h, fun _ => ?_, fun h => hne (by decide) h, fun h => hne (by decide) h, fun h => hne (by decide) h, fun h => absurd w1 (h 3 (by decide))⟩
      rw [← hKa, ka7]
      exact ⟨by show rsz K 7 + 2 < 1048576; omega, by show rsz K 7 + 3 + 2 < 1048576; omega, rfl, rfl⟩
    refine Or.inr ⟨mks Ka 3 0, S, 0, 0, cin _ _ (b_T_wrongInDeclaration_52 (D := 363) ⟨fun h => absurd h f0, fun _ => ⟨nI (rsz K 7 + 3), mks Ka 3 0, kty, fun _ => ⟨fun h => absurd rfl h, fun _ => ⟨fun _ => b_T_wrongInDeclaration_95 ⟨nk.2.2 _ _ z4, by rw [nk.2.1, z5]; exact cout _ nk⟩, fun h => ?_⟩⟩, fun h => absurd h (nI_m1 (by omega))⟩⟩), r25 _ _ (b_M_isRight_135 ⟨fun h => absurd h (by decide), fun _ => ⟨fun _ => ⟨rfl, rfl, rfl⟩, fun h => absurd w2 h⟩⟩), ⟨kx.ky, ⟨fun _ _ => rfl, fun _ _ => rfl⟩, fun w => ?_⟩, ⟨by omega, by rw [ro 9 (by decide)]; exact st.1.1.2.2.1, by rw [ro 11 (by decide)]; exact st.1.1.2.2.2, n, by omega, ?_⟩, ⟨rfl, rfl, ⟨nk.2.2 _ _ z1, by rw [nk.2.1]; exact nk.2.2 _ _ z4, Or.inl ⟨by rw [nk.2.1, nk.1 _ 0 z4.1]; exact w1, w2⟩⟩⟩, h61, by omega, by omega⟩
    · rw [rget_of (by omega) (by omega), mks_at, ka7, cp_up_ne (by omega), cp_up_ne (by omega), va_up_at, if_pos rfl] at h
      exact absurd h (by decide)
    · rw [mks_i, hKa, kI_i, cp_up_ne (by decide), mks_i]; exact w
    · have hB := st.2.2.2.2.2.1
      exact ⟨by rw [ro 15 (by decide)]; exact hB.1, by rw [ro 17 (by decide)]; exact hB.2.1, by rw [ro 19 (by decide)]; exact hB.2.2⟩
  · -- a term
    have hY0 := hY 0 (by omega) (by omega)
    have lt1 := SH_lt _ _ _ (TR.sh _ _ _ _ ht)
    have mm : (k + 4) * (j2 - i) = (k + 2) * (j2 - i) + 2 * (j2 - i) := by rw [← Nat.add_mul]
    have i31 : ¬ res = -2 := by rw [w1]; exact fun e => by have := nI_pos (n := i) (by omega); rw [e] at this; exact this (by decide)
    rcases ptype (p1 := p1) (q := q) (u := u) st ht ⟨hj2, hji⟩ hk (by omega) hH ⟨hu.1, hu.2, by omega⟩ (by omega) with ⟨K', S', y, a1, a2, a3⟩ | ⟨K', S', nv', nc', v, lf, a1, a2, a3, ⟨a4, a5, a6, a7⟩, a8, a9, a10⟩
    · exact Or.inl ⟨K', S', y, cin _ _ a1, r25 _ _ (b_M_isRight_135 ⟨fun h => absurd h (by decide), fun _ => ⟨fun h => absurd h i31, fun _ => ⟨0, S', by rw [w1]; exact a2, fun _ => ⟨rfl, rfl, rfl⟩, fun h => absurd rfl h⟩⟩⟩), a3⟩
    · have nk := a3.2.2.2.2.1.nk
      have sx := a3.2.2.2.2.2.1
      refine Or.inr ⟨K', S', 0, j2 - i, cin _ _ (a1 _ _ (by rw [z5]; exact cout _ nk)), r25 _ _ (b_M_isRight_135 ⟨fun h => absurd h (by decide), fun _ => ⟨fun h => absurd h i31, fun _ => ⟨1, S', by rw [w1]; exact a2, fun h => absurd h (by decide), fun _ => ⟨rfl, rfl, rfl⟩⟩⟩⟩), a3.dfr, a3.bnd (by omega) (by omega), ⟨rfl, rfl, ⟨nk.2.2 _ _ z1, by rw [nk.2.1]; exact nk.2.2 _ _ z4, Or.inr ⟨i, j2, w1, ?_, by omega, Nat.le_refl _⟩⟩⟩, ?_, Nat.le_refl _, by omega⟩
      · rw [nk.2.1]
        exact VAL.dtm (TR.nk nk (sx.bk 39 (by omega)) (sx.bk 40 (by omega)) (sx.bk 41 (by omega)) _ _ _ _ ht) a7 (fun c hc h => hsc c hc (by rw [sx.2.1 64 (by omega)] at h; exact h))
      · rw [a3.2.2.2.1.2.resolve_left h58]; exact h61
end CPDQ
