/-! ===== declarations: a part, both sides ===== -/
section CPDR
variable {ar : Nat → Nat} {rf : Nat} {pl : Nat → Nat → Prop} {k p1 z j j2 : Nat} {res : Int32}
theorem FIX.mv {K K1 : cp_K} {S S1 : cp_S} {ρ : Nat → Nat → Prop} {pt pt' n n' nv nc nv1 nc1 lev : Nat} {ρ1 : Nat → Nat → Prop} (fx : FIX K S ρ pt) (V : BIS (rat K 7) (rsz K 7) S.2 nv nc ρ) (g : TPO ar rf pl lev n n' K S ρ nv nc [] 0 0 L0 K1 S1 ρ1 nv1 nc1 [] 0 0 L0) (hp : pt ≤ pt') : FIX K1 S1 ρ pt' := fun v r w e => by
  obtain ⟨-, -, -, a4, a5, -⟩ := g.2.2.1.2.2.2 rfl
  have b := V.1 _ _ w
  rw [a4 v (by omega)] at e
  obtain ⟨kk, z1, z2⟩ := fx v r w e
  exact ⟨kk, by omega, by rw [a5 53 (by omega) (by omega) r b.2.1]; exact z2⟩
theorem dpr_c (hk : k ≤ 9) {rem : Nat} (ih : DPR ar rf pl k p1 z j j2 res rem) {q pt i i' u own : Nat} {sc : Nat → Prop} {K : cp_K} {S : cp_S} {ρ : Nat → Nat → Prop} {nv nc n : Nat} (st : TST ar rf pl n n K S ρ nv nc [] 0 0 L0) (fx : FIX K S ρ pt) (hqz : q ≠ z) (nq : nd K q 9) (h46 : S.2 46 pt = nI i) (rpt : RPT K S.2 pl k z rem (K.2.2.1 q 6) (pt + 1) i' j) (rrs : RRS K S.2 pl k z j j2 res) (h33 : S.1 33 = nI (pt + (rem + 1))) (h61 : S.1 61 = nI own) (h58 : ¬ S.1 58 = 0) (hsc : ∀ c, c < 26 → ¬ S.2 64 c = -1 → sc c) (hH : gH S.2 j2 = gH S.2 i) (hb : rem + 1 ≤ 6 ∧ n + (rem + 1) ≤ 100 ∧ pt + (rem + 1) < 180 ∧ own + (rem + 1) ≤ 100) (hjj : j ≤ j2) (hj2 : j2 < 2720) (hji : j2 - i ≤ 100) (hu : nv ≤ u ∧ nc ≤ u) (hY : ∀ Y, Y ≤ 5 * (rem + 1) + 1 → Y ≤ gL S.2 j2 - gL S.2 i → u + 100 * Y + 100 * (gI S.2 j2 - gI S.2 i) + (k + 4) * (j2 - i) + (rem + 1) ≤ 5590) (h7 : rsz K 7 + 6500 * (j2 - i) + 10 * (rem + 1) + 10 < 1040000)
    (a1 : K.2.1 q 0 = 15) (a2 : S.2 44 pt = 2) (a3 : ∃ w, w < 100 ∧ K.2.1 q 2 = nI w) (a4 : K.2.1 q 2 = S.2 48 pt) {l m : Nat} (b1 : l < 26) (b2 : m ≤ 6) (b3 : K.2.1 q 1 = nI (65 + l)) (b4 : S.2 45 pt = nI l) (b5 : S.2 47 pt = nI m) (b6 : K.2.1 q 3 = nI (m + 1)) (b7 : CHZ (TR K S.2 pl k) K m (K.2.2.1 q 4) (K.2.2.1 q 5) i i') (a5 : K.2.2.1 (K.2.2.1 q 5) 6 = 0) :
    (∃ (K' : cp_K) (S' : cp_S) (y : Int32), JC 371 m_T_wrongInDeclaration (fun _ => .inl (some (.int y))) K' 10 (LW p1 q) (fun _ => []) K ∧ JJ 9 m_M_isRight (some (.int 0)) (va_up S'.1 58 0, S'.2) 25 (LI res 1 pt) S ∧ BDW K S K' S' y) ∨
    ∃ (K' : cp_K) (S' : cp_S) (m d : Nat), JC 371 m_T_wrongInDeclaration (fun _ => .inl (some (.int (-1)))) K' 10 (LW p1 q) (fun _ => []) K ∧ JJ 9 m_M_isRight (some (.int 1)) (va_up S'.1 58 0, S'.2) 25 (LI res 1 pt) S ∧ DFR K S K' S' ∧ BND K' ∧ PTS K' S'.2 ar k z (RSX K' S'.2 ar k res z) (rem + 1) q pt sc m d ∧ S'.1 61 = nI (own + m) ∧ d ≤ j2 - i ∧ m ≤ rem + 1 := by
  have lt1 := CHZ.le (fun q i j h => SH_lt _ _ _ (TR.sh _ _ _ _ h)) _ _ _ _ _ b7
  have le1 := RPT.le _ _ _ _ _ rpt
  have q0 : ¬ q = 0 := by have := nq.1; omega
  have hDc := st.2.2.2.1.2
  have dfe : dfind K (K.2.1 q 1) = K.2.2.1 4 l := by rw [b3]; exact dfind_of b1
  have hnd : ¬ dfind K (K.2.1 q 1) = 0 → nd K (dfind K (K.2.1 q 1)) 10 := fun h => by
    rw [dfe] at h ⊢
    rcases hDc l b1 with ⟨-, w⟩ | ⟨-, w⟩ | ⟨-, w, -⟩
    · exact absurd w h
    · obtain ⟨k, sp, np, d, q1, q2, q3, q4, q5, q6, q7, q8, q9, q10⟩ := w
      exact q9
    · exact w
  have vpt : ∀ a, cp_ml a = 180 → vp_in (nI pt) (cp_ml a) := fun a ha => by rw [ha]; exact vp_in_nI (by omega) (by decide)
  have vl : vp_in (nI l) (cp_ml 30) := vp_in_nI (show l < 26 by omega) (by decide)
  have hpt2 : ¬ S.1 33 ≤ nI pt := by rw [h33]; exact nI_ge (by omega) (by omega)
  have r25 : ∀ (o : Option Value) (Sx T : cp_S) (r : Int32), MC 8 m_M_isRightCondition [.int (nI pt)] S (some (.int r)) T → JJ 9 m_M_isRight o Sx 129 [(1, .int res), (2, .int r), (3, .int (nI pt))] T → JJ 9 m_M_isRight o Sx 25 (LI res 1 pt) S := fun o Sx T r w1 w2 => b_M_isRight_25 ⟨fun h => absurd h hpt2, fun _ => ⟨fun h => absurd h (by decide), fun _ => ⟨vpt 44 rfl, fun h => absurd (by rw [nI_clamp (by omega)]; exact a2) h, fun _ => ⟨r, T, w1, w2⟩⟩⟩⟩
  by_cases hfit : S.2 30 l = 2 ∧ S.2 31 l = nI m
  · obtain ⟨m1, hm4, h31, hK2, hK1, hKn⟩ : ∃ m1, m1 ≤ 4 ∧ S.2 31 l = nI m1 ∧ K.2.1 (K.2.2.1 4 l) 2 = nI m1 ∧ ¬ K.2.1 (K.2.2.1 4 l) 1 = 0 ∧ nd K (K.2.2.1 4 l) 10 := by
      rcases hDc l b1 with ⟨w, -⟩ | ⟨w, -⟩ | ⟨-, w, w2, m1, w3, w4, w5⟩
      · exact absurd (w.symm.trans hfit.1) (by decide)
      · exact absurd (w.symm.trans hfit.1) (by decide)
      · exact ⟨m1, w3, w4, w5, w2, w⟩
    have em : m1 = m := (nI_eq (by omega) (by omega)).mp (h31.symm.trans hfit.2)
    subst em
    have hffp : ¬ ffp K q = 0 := by
      unfold ffp
      rw [dfe, if_pos ⟨by have := hKn.1; omega, hK1, by rw [hK2, b6]; exact (nI_pred _).symm⟩]
      decide
    have mm : (k + 4) * (j2 - i) = (k + 4) * (i' - i) + (k + 4) * (j2 - i') := by rw [← Nat.mul_add]; congr 1; omega
    have mm2 : (k + 4) * (i' - i) = (k + 2) * (i' - i) + 2 * (i' - i) := by rw [← Nat.add_mul]
    have g1 := (GW_b (b := S.2)).1 i i' (by omega)
    have g2 := (GW_b (b := S.2)).1 i' j2 (by omega)
    have l1 : gL S.2 i ≤ gL S.2 i' := pfx_le (by omega)
    have l2 : gL S.2 i' ≤ gL S.2 j2 := pfx_le (by omega)
    have cin : ∀ (o : cp_G → cp_O) (Kx : cp_K), JC 371 m_T_wrongInDeclaration o Kx 52 (LD p1 q 1 (K.2.2.1 q 4)) (fun _ => []) K → JC 371 m_T_wrongInDeclaration o Kx 10 (LW p1 q) (fun _ => []) K := fun o Kx w => b_T_wrongInDeclaration_10 (D := 363) ⟨fun h => absurd h q0, fun _ => ⟨nq, fun h => absurd a1 h, fun _ => ⟨hnd, fun _ => b_T_wrongInDeclaration_46 ⟨nq, w⟩, fun h => absurd h hffp⟩⟩⟩
    have rc : ∀ (o : Option Value) (Sx : cp_S), JJ 8 m_M_isRightCondition o Sx 54 [(1, .int (nI pt)), (2, .int (nI l)), (3, .int (nI i)), (4, .int (nI 0))] S → MC 8 m_M_isRightCondition [.int (nI pt)] S o Sx := fun o Sx w => by
      refine c_M_isRightCondition (b_M_isRightCondition_0 ?_)
      unfold wp_M_isRightCondition_0
      rw [nI_clamp (show pt < 2 ^ 31 by omega), b4, nI_clamp (show l < 2 ^ 31 by omega), hfit.1, hfit.2, b5, h46]
      exact ⟨vpt 45 rfl, vl, fun h => absurd rfl h, fun _ => ⟨vl, vpt 47 rfl, fun _ => ⟨vpt 46 rfl, w⟩, fun h => absurd rfl h⟩⟩
    rcases cterms (p1 := p1) (q := q) (x2 := nI l) (u := u) (by omega) hm4 hk (by omega) (show i' < 2720 by omega) m1 0 (K.2.2.1 q 4) i nv nc K S (by omega) b7 a5 b5 st (by omega) (by omega) hu (fun Y y1 y2 => by have := hY Y (by omega) (by omega); omega) (by omega) with ⟨K1, S1, y, c1, c2, c3⟩ | ⟨K1, S1, nv1, nc1, lf, c1, c2, c3, c4, c5, ⟨c6, c7, c8, c9⟩, ⟨c10, c11⟩⟩
    · exact Or.inl ⟨K1, S1, y, cin _ _ c1, r25 _ _ _ _ (rc _ _ c2) isr_bad, c3⟩
    · have nk1 := c3.2.2.2.2.1.nk
      have sx1 := c3.2.2.2.2.2.1
      have bk1 := sx1.bk
      have gg := g_bk bk1
      have st1 := st.mv c3 (by omega) rfl (Nat.le_refl _)
      have hS61 : S1.1 61 = nI own := by rw [c3.2.2.2.1.2.resolve_left h58]; exact h61
      have pcn : PCN K1 S1.2 ar k sc q pt (i' - i) := ⟨nk1.2.2 _ _ nq, by rw [nk1.1 q 0 nq.1]; exact a1, by rw [bk1 44 (by omega)]; exact a2, by omega, l, m1, i, i', b1, hm4, by rw [nk1.1 q 1 nq.1]; exact b3, by rw [bk1 45 (by omega)]; exact b4, by rw [bk1 46 (by omega)]; exact h46, by rw [bk1 47 (by omega)]; exact b5, by rw [bk1 30 (by omega)]; exact hfit.1, by rw [bk1 31 (by omega)]; exact hfit.2, by
        rw [nk1.2.1]
        exact CHZ.mr nk1 (fun q i j h => SH_lt _ _ _ (TR.sh _ _ _ _ h)) _ _ _ _ _ b7 (fun q' x y x1 y1 h => VAL.dtm (TR.nk nk1 (bk1 39 (by omega)) (bk1 40 (by omega)) (bk1 41 (by omega)) _ _ _ _ h) (fun w w1 w2 => c4 w (by omega) (by omega)) (fun c hc h => hsc c hc (by rw [sx1.2.1 64 (by omega)] at h; exact h))), by omega, Nat.le_refl _⟩
      rcases ih (K.2.2.1 q 6) (pt + 1) i' (u + 100 * (gI S.2 i' - gI S.2 i) + (k + 2) * (i' - i) + 100 * lf) own sc K1 S1 ρ nv1 nc1 n st1 (fx.mv st.1.1.1.1.1 c3 (by omega)) (RPT.mv nk1 bk1 _ _ _ _ _ rpt) (rrs.mv nk1 bk1) (by rw [sx1.1 33 (by decide), h33]; congr 1; omega) hS61 (by rw [sx1.1 58 (by decide)]; exact h58) (fun c hc h => hsc c hc (by rw [sx1.2.1 64 (by omega)] at h; exact h)) (by rw [gg.2.2.1]; omega) ⟨by omega, by omega, by omega, by omega⟩ ⟨hjj, hj2, by omega⟩ ⟨c8, c9⟩ (fun Y y1 y2 => by rw [gg.2.2.2] at y2; rw [gg.1]; have := hY (Y + lf) (by omega) (by omega); omega) (by omega) with ⟨K', S', y, d1, d2, d3⟩ | ⟨K', S', m', d, d1, d2, d3, d4, d5, d6, d7, d8⟩
      · refine Or.inl ⟨K', S', y, cin _ _ (c1 _ _ ?_), r25 _ _ _ _ (rc _ _ c2) (b_M_isRight_129 ?_), BDW.pre c3.dfr d3⟩
        · exact b_T_wrongInDeclaration_52 (D := 363) ⟨fun _ => ⟨nk1.2.2 _ _ nq, fun _ => b_T_wrongInDeclaration_122 ⟨nk1.2.2 _ _ nq, by rw [nk1.2.1]; exact d1⟩, fun h => absurd (by rw [nk1.1 q 0 nq.1, a1] at h; exact h) (by decide)⟩, fun h => absurd rfl h⟩
        · unfold wp_M_isRight_129
          rw [nI_1]; exact d2
      · have nk' := d3.1.nk
        have bk' := d3.2.1.bk
        refine Or.inr ⟨K', S', m', (i' - i) + d, cin _ _ (c1 _ _ ?_), r25 _ _ _ _ (rc _ _ c2) (b_M_isRight_129 ?_), c3.dfr.trans d3, d4, ⟨hqz, i' - i, d, rfl, Or.inl ⟨pcn.mv nk' bk', by rw [nk'.2.1, nk1.2.1]; exact d5⟩⟩, d6, by omega, by omega⟩
        · exact b_T_wrongInDeclaration_52 (D := 363) ⟨fun _ => ⟨nk1.2.2 _ _ nq, fun _ => b_T_wrongInDeclaration_122 ⟨nk1.2.2 _ _ nq, by rw [nk1.2.1]; exact d1⟩, fun h => absurd (by rw [nk1.1 q 0 nq.1, a1] at h; exact h) (by decide)⟩, fun h => absurd rfl h⟩
        · unfold wp_M_isRight_129
          rw [nI_1]; exact d2
  · -- no fit
    have hffp : ffp K q = 0 := by
      unfold ffp
      rw [dfe, if_neg]
      rintro ⟨w1, w2, w3⟩
      rcases hDc l b1 with ⟨-, v⟩ | ⟨-, v⟩ | ⟨v0, v1, v2, m1, v3, v4, v5⟩
      · exact w1 v
      · obtain ⟨k, sp, np, d, q1, q2, q3, q4, q5, q6, q7, q8, q9, q10, q11⟩ := v
        exact w2 q10
      · refine hfit ⟨v0, ?_⟩
        rw [v5, b6] at w3
        have e1 : nI (m + 1) - 1 = nI m := nI_pred _
        rw [e1] at w3
        rw [v4, w3]
    refine Or.inl ⟨K, (va_up S.1 59 (S.2 48 pt), S.2), K.2.1 q 2, b_T_wrongInDeclaration_10 (D := 363) ⟨fun h => absurd h q0, fun _ => ⟨nq, fun h => absurd a1 h, fun _ => ⟨hnd, fun h => absurd hffp h, fun _ => ⟨rfl, rfl⟩⟩⟩⟩, r25 _ _ (va_up S.1 59 (S.2 48 pt), S.2) 0 (c_M_isRightCondition (b_M_isRightCondition_0 ?_)) isr_bad, ⟨KY.refl, ⟨fun k hk => ?_, fun _ _ => rfl⟩, fun w => ?_⟩, ?_, a3, ?_⟩
    · unfold wp_M_isRightCondition_0
      rw [nI_clamp (show pt < 2 ^ 31 by omega), b4, nI_clamp (show l < 2 ^ 31 by omega)]
      refine ⟨vpt 45 rfl, vl, fun _ => ⟨vpt 48 rfl, rfl, rfl, rfl⟩, fun h30 => ⟨vl, vpt 47 rfl, fun h => absurd ⟨h30, h.trans b5⟩ hfit, fun _ => ⟨vpt 48 rfl, rfl, rfl, rfl⟩⟩⟩
    · show va_up S.1 59 (S.2 48 pt) k = _
      rw [cp_up_ne (fun e => hk (by rw [e]; decide))]
    · show K.2.1 23 4 = va_up S.1 59 (S.2 48 pt) 60
      rw [cp_up_ne (by decide)]; exact w
    · show va_up S.1 59 (S.2 48 pt) 59 = _
      rw [va_up_at, a4]
    · have hB := st.2.2.2.2.2.1
      exact ⟨by omega, st.1.1.2.2.1, st.1.1.2.2.2, n, by omega, hB⟩
end CPDR
