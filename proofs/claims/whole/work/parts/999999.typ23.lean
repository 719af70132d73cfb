/-! ===== declarations: a parameter, both sides; the whole look ===== -/
def PNM (K : cp_K) (b : Nat → Nat → Int32) (q pt : Nat) : Prop := (∃ x, x < 26 ∧ b 44 pt = 0 ∧ b 45 pt = nI x ∧ K.2.1 q 1 = nI (97 + x)) ∨ (b 44 pt = 1 ∧ K.2.1 q 1 = 0)
def PNN (K : cp_K) (b : Nat → Nat → Int32) (q pt : Nat) (nm : Option Nat) : Prop := (∃ x, nm = some x ∧ x < 26 ∧ b 44 pt = 0 ∧ K.2.1 q 1 = nI (97 + x) ∧ b 45 pt = nI x) ∨ (nm = none ∧ b 44 pt = 1 ∧ K.2.1 q 1 = 0)
section CPDS
variable {ar : Nat → Nat} {rf : Nat} {pl : Nat → Nat → Prop} {k p1 z j j2 : Nat} {res : Int32}
theorem dpr_p (har : ar 26 = 1) (hk : k ≤ 9) {rem : Nat} (ih : DPR ar rf pl k p1 z j j2 res rem) {q pt i i' u own : Nat} {sc : Nat → Prop} {K : cp_K} {S : cp_S} {ρ : Nat → Nat → Prop} {nv nc n : Nat} (st : TST ar rf pl n n K S ρ nv nc [] 0 0 L0) (fx : FIX K S ρ pt) (hqz : q ≠ z) (nq : nd K q 9) (h46 : S.2 46 pt = nI i) (rpt : RPT K S.2 pl k z rem (K.2.2.1 q 6) (pt + 1) i' j) (rrs : RRS K S.2 pl k z j j2 res) (h33 : S.1 33 = nI (pt + (rem + 1))) (h61 : S.1 61 = nI own) (h58 : ¬ S.1 58 = 0) (hsc : ∀ c, c < 26 → ¬ S.2 64 c = -1 → sc c) (hH : gH S.2 j2 = gH S.2 i) (hb : rem + 1 ≤ 6 ∧ n + (rem + 1) ≤ 100 ∧ pt + (rem + 1) < 180 ∧ own + (rem + 1) ≤ 100) (hjj : j ≤ j2) (hj2 : j2 < 2720) (hji : j2 - i ≤ 100) (hu : nv ≤ u ∧ nc ≤ u) (hY : ∀ Y, Y ≤ 5 * (rem + 1) + 1 → Y ≤ gL S.2 j2 - gL S.2 i → u + 100 * Y + 100 * (gI S.2 j2 - gI S.2 i) + (k + 4) * (j2 - i) + (rem + 1) ≤ 5590) (h7 : rsz K 7 + 6500 * (j2 - i) + 10 * (rem + 1) + 10 < 1040000)
    (a1 : K.2.1 q 0 = 14) (a2 : nd K (K.2.2.1 q 4) 9) (ht : TR K S.2 pl k (K.2.2.1 q 4) i i') (a4 : K.2.2.1 (K.2.2.1 q 4) 6 = 0) (a5 : PNM K S.2 q pt) :
    (∃ (K' : cp_K) (S' : cp_S) (y : Int32), JC 371 m_T_wrongInDeclaration (fun _ => .inl (some (.int y))) K' 10 (LW p1 q) (fun _ => []) K ∧ JJ 9 m_M_isRight (some (.int 0)) (va_up S'.1 58 0, S'.2) 25 (LI res 1 pt) S ∧ BDW K S K' S' y) ∨
    ∃ (K' : cp_K) (S' : cp_S) (m d : Nat), JC 371 m_T_wrongInDeclaration (fun _ => .inl (some (.int (-1)))) K' 10 (LW p1 q) (fun _ => []) K ∧ JJ 9 m_M_isRight (some (.int 1)) (va_up S'.1 58 0, S'.2) 25 (LI res 1 pt) S ∧ DFR K S K' S' ∧ BND K' ∧ PTS K' S'.2 ar k z (RSX K' S'.2 ar k res z) (rem + 1) q pt sc m d ∧ S'.1 61 = nI (own + m) ∧ d ≤ j2 - i ∧ m ≤ rem + 1 := by
  have lt1 := SH_lt _ _ _ (TR.sh _ _ _ _ ht)
  have le1 := RPT.le _ _ _ _ _ rpt
  have q0 : ¬ q = 0 := by have := nq.1; omega
  have s15 : ¬ K.2.1 q 0 = 15 := by rw [a1]; decide
  have h442 : ¬ S.2 44 pt = 2 := by
    rcases a5 with ⟨x, -, w, -⟩ | ⟨w, -⟩
    · rw [w]; decide
    · rw [w]; decide
  have vpt : ∀ a, cp_ml a = 180 → vp_in (nI pt) (cp_ml a) := fun a ha => by rw [ha]; exact vp_in_nI (by omega) (by decide)
  have hpt2 : ¬ S.1 33 ≤ nI pt := by rw [h33]; exact nI_ge (by omega) (by omega)
  obtain ⟨S0, hS0⟩ : ∃ S0 : cp_S, S0 = (va_up S.1 61 (nI (own + 1)), S.2) := ⟨_, rfl⟩
  have s02 : S0.2 = S.2 := by rw [hS0]
  have s01 : ∀ k, k ≠ 61 → S0.1 k = S.1 k := fun k hk => by rw [hS0]; exact cp_up_ne hk
  have s061 : S0.1 61 = nI (own + 1) := by rw [hS0]; show va_up S.1 61 (nI (own + 1)) 61 = _; rw [va_up_at]
  have st0 : TST ar rf pl n n K S0 ρ nv nc [] 0 0 L0 := st.sc s02 (fun k hk => s01 k (by omega))
  have D0 : DFR K S K S0 := ⟨KY.refl, ⟨fun k hk => s01 k (fun e => hk (by rw [e]; decide)), fun p _ => by rw [s02]⟩, fun w => by rw [s01 60 (by decide)]; exact w⟩
  have cin : ∀ (o : cp_G → cp_O) (Kx : cp_K), JC 371 m_T_wrongInDeclaration o Kx 52 (LD p1 q 0 (K.2.2.1 q 4)) (fun _ => []) K → JC 371 m_T_wrongInDeclaration o Kx 10 (LW p1 q) (fun _ => []) K := fun o Kx w => b_T_wrongInDeclaration_10 (D := 363) ⟨fun h => absurd h q0, fun _ => ⟨nq, fun _ => b_T_wrongInDeclaration_46 ⟨nq, w⟩, fun h => absurd h s15⟩⟩
  have mm : (k + 4) * (j2 - i) = (k + 4) * (i' - i) + (k + 4) * (j2 - i') := by rw [← Nat.mul_add]; congr 1; omega
  have mm2 : (k + 4) * (i' - i) = (k + 2) * (i' - i) + 2 * (i' - i) := by rw [← Nat.add_mul]
  have g1 := (GW_b (b := S.2)).1 i i' (by omega)
  have g2 := (GW_b (b := S.2)).1 i' j2 (by omega)
  have l1 : gL S.2 i ≤ gL S.2 i' := pfx_le (by omega)
  have l2 : gL S.2 i' ≤ gL S.2 j2 := pfx_le (by omega)
  have hY0 := hY 0 (by omega) (by omega)
  rcases ptype (p1 := p1) (q := q) (u := u) st0 (by rw [s02]; exact ht) ⟨by omega, by omega⟩ hk (by omega) (by rw [s02]; omega) ⟨hu.1, hu.2, by rw [s02]; omega⟩ (by omega) with ⟨K', S', y, c1, c2, c3⟩ | ⟨K1, S1, nv1, nc1, v, lf, c1, c2, c3, ⟨c4, c5, c6, c7⟩, c8, ⟨c9, c10, c11, c12⟩, ⟨c13, c14⟩⟩
  · refine Or.inl ⟨K', S', y, cin _ _ c1, b_M_isRight_25 ⟨fun h => absurd h hpt2, fun _ => ⟨fun h => absurd h (by decide), fun _ => ⟨vpt 44 rfl, fun _ => ⟨vpt 46 rfl, 0, S', ?_, fun _ => isr_bad, fun h => absurd rfl h⟩, fun h => absurd (by rw [nI_clamp (by omega)] at h; exact h) h442⟩⟩⟩, BDW.pre D0 c3⟩
    rw [nI_clamp (by omega), h46, h61, nI_1, ← hS0]
    exact c2
  · rw [s02] at c10 c11 c12
    have nk1 := c3.2.2.2.2.1.nk
    have sx1 := c3.2.2.2.2.2.1
    have bk1 : BK S.2 S1.2 := by rw [← s02]; exact sx1.bk
    have gg := g_bk bk1
    have st1 := st0.mv c3 (by omega) rfl (Nat.le_refl _)
    have h58' : ¬ S1.1 58 = 0 := by rw [sx1.1 58 (by decide), s01 58 (by decide)]; exact h58
    have hS61 : S1.1 61 = nI (own + 1) := by rw [c3.2.2.2.1.2.resolve_left (by rw [s01 58 (by decide)]; exact h58)]; exact s061
    have fx1 : FIX K1 S1 ρ pt := FIX.mv (S := S0) (fun v r w e => by rw [s02]; exact fx v r w e) (by rw [s02]; exact st.1.1.1.1.1) c3 (Nat.le_refl _)
    have s164 : S1.2 64 = S.2 64 := by rw [sx1.2.1 64 (by omega), s02]
    have n1q : nd K1 q 9 := nk1.2.2 _ _ nq
    have ht1 : TR K1 S1.2 pl k (K.2.2.1 q 4) i i' := TR.nk nk1 (bk1 39 (by omega)) (bk1 40 (by omega)) (bk1 41 (by omega)) _ _ _ _ ht
    have dtm1 : DTM K1 S1.2 ar k sc (K1.2.2.1 q 4) i i' := by
      rw [nk1.2.1]
      exact VAL.dtm ht1 c7 (fun c hc h => hsc c hc (by rw [s164] at h; exact h))
    -- the rest, from the state behind the name
    have rest : ∀ (K3 : cp_K) (S3 : cp_S) (ρ3 : Nat → Nat → Prop) (nv3 nc3 : Nat) (nm : Option Nat), KC 8 m_T_learnName (fun G => [.ref (cp_b G + 24), .int (K.2.1 q 1)]) K1 (fun _ => none) K3 → DFR K1 S1 K3 S3 → TST ar rf pl (n + 1) (n + 1) K3 S3 ρ3 nv3 nc3 [] 0 0 L0 → FIX K3 S3 ρ3 (pt + 1) → rsz K3 7 = rsz K1 7 + 3 → (∀ c, c < 26 → ¬ S3.2 64 c = -1 → sc c ∨ nm = some c) → S3.1 61 = nI (own + 1) → (nv3 ≤ nv1 + (i' - i) + 1 ∧ nc3 ≤ nc1 + (i' - i) + 1) → (∀ o Sx, JJ 9 m_M_isRight o Sx 129 [(1, .int res), (2, .int 1), (3, .int (nI pt))] S3 → JJ 9 m_M_isRight o Sx 25 (LI res 1 pt) S) → PNN K S.2 q pt nm → (∃ (K' : cp_K) (S' : cp_S) (y : Int32), JC 371 m_T_wrongInDeclaration (fun _ => .inl (some (.int y))) K' 10 (LW p1 q) (fun _ => []) K ∧ JJ 9 m_M_isRight (some (.int 0)) (va_up S'.1 58 0, S'.2) 25 (LI res 1 pt) S ∧ BDW K S K' S' y) ∨
        ∃ (K' : cp_K) (S' : cp_S) (m d : Nat), JC 371 m_T_wrongInDeclaration (fun _ => .inl (some (.int (-1)))) K' 10 (LW p1 q) (fun _ => []) K ∧ JJ 9 m_M_isRight (some (.int 1)) (va_up S'.1 58 0, S'.2) 25 (LI res 1 pt) S ∧ DFR K S K' S' ∧ BND K' ∧ PTS K' S'.2 ar k z (RSX K' S'.2 ar k res z) (rem + 1) q pt sc m d ∧ S'.1 61 = nI (own + m) ∧ d ≤ j2 - i ∧ m ≤ rem + 1 := by
      intro K3 S3 ρ3 nv3 nc3 nm kl D3 st3 fx3 e7 hsc3 h613 hnn rr hnm
      have D13 := (D0.trans c3.dfr).trans D3
      have nk3 := D13.1.nk
      have bk3 := D13.2.1.bk
      have nk13 := D3.1.nk
      have gg3 := g_bk bk3
      have cnext : ∀ (o : cp_G → cp_O) (Kx : cp_K), JC 371 m_T_wrongInDeclaration o Kx 10 (LW p1 (K.2.2.1 q 6)) (fun _ => []) K3 → JC 371 m_T_wrongInDeclaration o Kx 10 (LW p1 q) (fun _ => []) K := fun o Kx w => cin _ _ (c1 _ _ (by rw [a4]; exact b_T_wrongInDeclaration_52 (D := 363) ⟨fun _ => ⟨n1q, fun h => absurd (by rw [nk1.1 q 0 nq.1]; exact a1) h, fun _ => ⟨K3, by rw [nk1.1 q 1 nq.1]; exact kl.mono (by omega), b_T_wrongInDeclaration_122 ⟨nk13.2.2 _ _ n1q, by rw [nk3.2.1]; exact w⟩⟩⟩, fun h => absurd rfl h⟩))
      have prm : PRM K3 S3.2 ar k sc q pt (i' - i) nm := ⟨nk3.2.2 _ _ nq, by rw [nk3.1 q 0 nq.1]; exact a1, by omega, ⟨i, i', by rw [bk3 46 (by omega)]; exact h46, by rw [nk13.2.1]; exact dtm1.mv nk13 D3.2.1.bk, by omega, Nat.le_refl _⟩, by rw [nk3.1 q 1 nq.1, bk3 44 (by omega), bk3 45 (by omega)]; unfold PNN at hnm; exact hnm⟩
      rcases ih (K.2.2.1 q 6) (pt + 1) i' (u + 100 * (gI S.2 i' - gI S.2 i) + (k + 2) * (i' - i) + 100 * lf + (i' - i) + 1) (own + 1) (fun c => sc c ∨ nm = some c) K3 S3 ρ3 nv3 nc3 (n + 1) st3 fx3 (RPT.mv nk3 bk3 _ _ _ _ _ rpt) (rrs.mv nk3 bk3) (by rw [D13.2.1.1 33 (by decide), h33]; congr 1; omega) h613 (by rw [D13.2.1.1 58 (by decide)]; exact h58) hsc3 (by rw [gg3.2.2.1]; omega) ⟨by omega, by omega, by omega, by omega⟩ ⟨hjj, hj2, by omega⟩ ⟨by omega, by omega⟩ (fun Y y1 y2 => by rw [gg3.2.2.2] at y2; rw [gg3.1]; have := hY (Y + lf) (by omega) (by omega); omega) (by omega) with ⟨K', S', y, d1, d2, d3⟩ | ⟨K', S', m', d, d1, d2, d3, d4, d5, d6, d7, d8⟩
      · refine Or.inl ⟨K', S', y, cnext _ _ d1, rr _ _ (b_M_isRight_129 ?_), BDW.pre D13 d3⟩
        unfold wp_M_isRight_129
        rw [nI_1]; exact d2
      · have nk' := d3.1.nk
        refine Or.inr ⟨K', S', m' + 1, (i' - i) + d, cnext _ _ d1, rr _ _ (b_M_isRight_129 ?_), D13.trans d3, d4, ⟨hqz, i' - i, d, rfl, Or.inr ⟨m', nm, rfl, prm.mv nk' d3.2.1.bk, by rw [nk'.2.1, nk3.2.1]; exact d5⟩⟩, by rw [d6]; congr 1; omega, by omega, by omega⟩
        unfold wp_M_isRight_129
        rw [nI_1]; exact d2
    have ity : MC 8 m_M_isType [.int (S.2 46 (Int32.toNatClampNeg (nI pt)))] ((va_up S.1 61 ((S.1 61) + 1)), S.2) (some (.int 1)) S1 := by
      rw [nI_clamp (by omega), h46, h61, nI_1, ← hS0]
      exact c2
    rcases a5 with ⟨x, hx, w44, w45, wq⟩ | ⟨w44, wq⟩
    · obtain ⟨⟨stv, h42, hs, hd4⟩, hF, nmS, -, ⟨p20, plf, pli⟩, hB, hnE, -, -⟩ := id st1
      obtain ⟨r, S2, ρ2, nv2, nc2, r1, r2, r3, r4, r5, r6, r7⟩ := evt stv nmS hs pli ht1 c6 c7 (by omega) (by omega) (by omega) (by omega)
      obtain ⟨y1, y2, y3, y4, y5, y6, y7, y8, y9, y10, y11, y12, y13⟩ := id r1
      have T2 : TPO ar rf pl 1 n n K1 S1 ρ nv1 nc1 [] 0 0 L0 K1 S2 ρ2 nv2 nc2 [] 0 0 L0 := TPO.ev hs hd4 stv.1.2.1 h42 r6 r5 KX.refl rfl hB (fun _ _ _ _ => rfl) (Nat.le_refl _) (fun _ _ => rfl) (fun k hk => y9 k (fun q => hk (by rw [q]; decide)) (fun q => hk (by rw [q]; decide))) (fun p hp => y10 p (by omega)) (fun x _ => by rw [y10 63 (by omega)]) (fun p p1 p2 x _ => by rw [y10 p (by omega)]) y11 y12
      have st2 := st1.mv T2 (by omega) rfl (Nat.le_refl _)
      have fx2 : FIX K1 S2 ρ2 pt := fun v' r' w e => by
        rcases r7 v' r' w with w | w
        · have b := stv.1.1.1.1 _ _ w
          obtain ⟨kk, z1, z2⟩ := fx1 v' r' w e
          exact ⟨kk, z1, by rw [y11 53 (by omega) (by omega) r' b.2.1]; exact z2⟩
        · exact absurd e w
      obtain ⟨K3, S3, ρ3, e1, ⟨T15, e2, e3⟩, e4, e5, e6, e8, e9, e10⟩ := learn_n (x := x) (v := v) (pt := pt) har st2 fx2 (by omega) (by omega) c4 c5 r2 hx r4 (by omega) (by omega)
      refine rest K3 S3 ρ3 (nv2 + 1) nc2 (some x) (by rw [wq]; exact e1) (T2.dfr.trans e4) e5 e6 e8 (fun c hc h => ?_) (by rw [e10, y9 61 (by decide) (by decide)]; exact hS61) ⟨by omega, by omega⟩ (fun o Sx w => b_M_isRight_25 ⟨fun h => absurd h hpt2, fun _ => ⟨fun h => absurd h (by decide), fun _ => ⟨vpt 44 rfl, fun _ => ⟨vpt 46 rfl, 1, S1, ity, fun h => absurd h (by decide), fun _ => ⟨vpt 44 rfl, fun h => absurd (by rw [nI_clamp (by omega), bk1 44 (by omega)]; exact w44) h, fun _ => ?_⟩⟩, fun h => absurd (by rw [nI_clamp (by omega)] at h; exact h) h442⟩⟩⟩) (Or.inl ⟨x, rfl, hx, w44, wq, w45⟩)
      · rcases e9 c hc h with w | w
        · exact Or.inl (hsc c hc (by rw [y10 64 (by omega), s164] at w; exact w))
        · exact Or.inr (by rw [w])
      · have e45 : S2.2 45 pt = nI x := by rw [y10 45 (by omega), bk1 45 (by omega)]; exact w45
        rw [nI_clamp (show pt < 2 ^ 31 by omega), bk1 46 (by omega), h46, bk1 45 (by omega), w45]
        refine ⟨vpt 45 rfl, vpt 46 rfl, nI r, S2, r3, vp_in_nI (show x < 26 by omega) (by decide), vpt 45 rfl, nI nv2, T15, ?_, ?_, ?_⟩
        · rw [nI_clamp (show x < 2 ^ 31 by omega)]; exact e2
        · rw [e45]; exact vp_in_nI (show x < 260 by omega) (by decide)
        · rw [e45, nI_clamp (show x < 2 ^ 31 by omega), ← e3]; exact w
    · obtain ⟨K3, e1, e2, e3, e4, e5⟩ := learn_u (v := v) st1 fx1 (by omega) (by omega) c4
      refine rest K3 S1 ρ nv1 nc1 none (by rw [wq]; exact e1) e2 e3 e4 e5 (fun c hc h => Or.inl (hsc c hc (by rw [s164] at h; exact h))) hS61 ⟨by omega, by omega⟩ (fun o Sx w => b_M_isRight_25 ⟨fun h => absurd h hpt2, fun _ => ⟨fun h => absurd h (by decide), fun _ => ⟨vpt 44 rfl, fun _ => ⟨vpt 46 rfl, 1, S1, ity, fun h => absurd h (by decide), fun _ => ⟨vpt 44 rfl, fun _ => w, fun h => absurd (by rw [nI_clamp (by omega), bk1 44 (by omega), w44] at h; exact h) (by decide)⟩⟩, fun h => absurd (by rw [nI_clamp (by omega)] at h; exact h) h442⟩⟩⟩) (Or.inr ⟨rfl, w44, wq⟩)
theorem dparts (har : ar 26 = 1) (hk : k ≤ 9) : ∀ rem, DPR ar rf pl k p1 z j j2 res rem := fun rem => by
  induction rem with
  | zero => exact dpr_0 hk
  | succ rem ih =>
    intro q pt i u own sc K S ρ nv nc n st fx rpt rrs h33 h61 h58 hsc hH hb ⟨hjj, hj2, hji⟩ hu hY h7
    obtain ⟨hqz, nq, hpt', h46, i', rpt, hc⟩ := rpt
    rcases hc with ⟨a1, a2, a3, a4, ⟨l, m, b1, b2, b3, b4, b5, b6, b7⟩, a5⟩ | ⟨a1, a2, a3, a4, a5⟩
    · exact dpr_c hk ih st fx hqz nq h46 rpt rrs h33 h61 h58 hsc hH hb hjj hj2 hji hu hY h7 a1 a2 a3 a4 b1 b2 b3 b4 b5 b6 b7 a5
    · exact dpr_p har hk ih st fx hqz nq h46 rpt rrs h33 h61 h58 hsc hH hb hjj hj2 hji hu hY h7 a1 a2 a3 a4 a5
end CPDS
