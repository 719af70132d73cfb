/-! ===== drawing: the joint walk ===== -/
section CPDW
variable {f : Nat → Int32} {N : Nat} {a : Nat → Nat → Int32} {nv nc C : Nat} {ρ : Nat → Nat → Prop} {hl : List Nat}
/-- what drawing a value comes to -/
def DPV (f : Nat → Int32) (N : Nat) (a : Nat → Nat → Int32) (ρ : Nat → Nat → Prop) (x1 x : Int32) (W : Nat) : Prop := ∀ (v r n m T d : Nat) (K : cp_K) (S : cp_S) (L : List Int32), 101 ≤ n + W → ρ v r → rat K 7 = f → rsz K 7 = N → GE S a → DST K S n m → T ≤ n → d ≤ n → RS K 9 (nI v :: L) → VLS ρ L → L.length ≤ 4 * n → S.2 61 d = nI (lk f N a ρ v r).2 → S.2 62 d = 0 → ∃ r1 S1, MC 0 m_M_drawOne [.int (nI (lk f N a ρ v r).2), .int (nI n)] S (some (.int (nI r1))) S1 ∧
    ((∃ K' S' n' m' T', (n < n' ∧ n' ≤ 100 ∧ T' ≤ n') ∧ DST K' S' n' m' ∧ m < m' ∧ DKP K K' S S' n m d ∧ RS K' 9 L ∧ VT f N a ρ S'.2 ((n' - n + 2) / 3) v r m m' ∧ WCO x1 T K T' K' ∧ RCO x (d + 1) r1 S1 d n' S') ∨ (WLO x1 T K ∧ RLO x (d + 1) r1 S1 ∧ FDR S S1))
/-- and its arguments from one on -/
def DPA (f : Nat → Int32) (N : Nat) (a : Nat → Nat → Int32) (ρ : Nat → Nat → Prop) (x1 x : Int32) (W s d : Nat) (A : List (Nat × Nat)) (rem : Nat) : Prop := ∀ (k n m T : Nat) (K : cp_K) (S : cp_S) (L : List Int32), k + rem = A.length → 101 ≤ n + W → rat K 7 = f → rsz K 7 = N → GE S a → DST K S n m → T ≤ n → d + 1 ≤ n → RS K 9 ((A.drop k).map (fun q => nI q.1) ++ (-1 :: L)) → VLS ρ L → L.length + 6 ≤ 4 * n → S.2 61 d = nI s → S.2 62 d = nI k →
    ((∃ K' S' n' m' T', (n < n' ∧ n' ≤ 100 ∧ T' ≤ n') ∧ DST K' S' n' m' ∧ m ≤ m' ∧ DKP K K' S S' n m d ∧ RS K' 9 L ∧ (∀ F, (n' - n + 1) / 3 ≤ F → VTL (VT f N a ρ S'.2 F) (A.drop k) m m') ∧ WCO x1 T K T' K' ∧ RCO x (d + 1) n S d n' S') ∨ (WLO x1 T K ∧ RLO x (d + 1) n S))
theorem DST.fw {K : cp_K} {S S' : cp_S} {n m : Nat} (h : DST K S n m) (w : FW S S') : DST K S' n m := by
  obtain ⟨h1, h2, h3, h4, h5, h6⟩ := h
  refine ⟨h1, by rw [w.1]; exact h2, fun i hi => by rw [w.2 29 (by decide) (by decide)]; exact h3 i hi, by rw [w.1]; exact h4, by rw [w.1]; exact h5, fun x hx => by rw [w.1, w.2 79 (by decide) (by decide), w.2 80 (by decide) (by decide)]; exact h6 x hx⟩
theorem dra_0 (V : VI f N a nv nc ρ hl C) (h5 : ∀ v r, ρ v r → ¬ f v = 5) {x1 x : Int32} {W s d : Nat} {A : List (Nat × Nat)} (hs : s < 6000) (hA1 : A.length ≤ 6) (hA0 : 0 < A.length) (h55 : a 55 s = nI A.length) : DPA f N a ρ x1 x W s d A 0 := by
  intro k n m T K S L hk hW e1 e2 ge hst hT hd hR hL hl h61 h62
  obtain ⟨⟨hn, hn1⟩, ⟨h75, hm⟩, hch, h74, hop, hrw⟩ := hst
  rw [List.drop_of_length_le (by omega), List.map_nil, List.nil_append] at hR
  have kf : KF [9] K (kpop K 9) := KF.pop
  have k7 := kf.2.2.1 7 (by decide)
  have hdn := hn.kf kf
  have wc := write_c (x1 := x1) hn (show T ≤ 100 by omega) hR (by omega)
  have c41 : (41 : Int32) = nI 41 := rfl
  rw [c41] at wc
  have wf : WF K (wput (kpop K 9) (nI 41)) := (WF.of kf).trans (WF.put hdn (by decide))
  have dn1 : DN (wput (kpop K 9) (nI 41)) (n + 1) := by
    have := hdn.put (c := 41) (by decide)
    rw [show min (n + 1) 101 = n + 1 by omega] at this
    exact this
  obtain ⟨p1, p2⟩ := put_ch hdn (c := 41) (by decide)
  have hw9 : (wput (kpop K 9) (nI 41)).2.2.2 = (kpop K 9).2.2.2 := by unfold wput; split <;> rfl
  have hR1 : RS (wput (kpop K 9) (nI 41)) 9 L := hR.pop.1.wp hw9
  obtain ⟨S', hS'⟩ : ∃ S' : cp_S, S' = (S.1, va_up S.2 29 (upd (S.2 29) n 41)) := ⟨_, rfl⟩
  have hS1 : S'.1 = S.1 := by rw [hS']
  have hS2 : S'.2 = va_up S.2 29 (upd (S.2 29) n 41) := by rw [hS']
  have ref : RCO x (d + 1) n S d (n + 1) S' := fun o S2 w => by
    refine b_M_draw_28 ?_
    unfold wp_M_draw_28
    rw [nI_pred, nI_clamp (show d < 2 ^ 31 by omega), h61, nI_clamp (show s < 2 ^ 31 by omega), h62, ge 55 (by omega) (by omega), h55, nI_clamp (show n < 2 ^ 31 by omega)]
    have vd : vp_in (nI d) 210 := vp_in_nI (by omega) (by decide)
    have vs : vp_in (nI s) 6000 := vp_in_nI hs (by decide)
    refine ⟨fun h => absurd h (nI_nle (by omega) (by omega)), fun _ => ⟨fun h => absurd h (nI_nlt (a := 100) (b := n) hn1 (by decide)), fun _ => ⟨vd, vd, vs, fun _ => ⟨vs, fun h => absurd h (nI_nle hA0 (by omega)), fun _ => ⟨vp_in_nI (show n < 110 by omega) (by decide), b_M_draw_110 ?_⟩⟩, fun h => absurd (by rw [show k = A.length by omega]; exact Int32.le_refl _) h⟩⟩⟩
    unfold wp_M_draw_110
    rw [show nI (d + 1) + (-1) = nI d from by rw [← nI_pred d, Int32.sub_eq_add_neg], nI_1, ← hS']
    exact b_M_draw_113 w
  have dkp : DKP K (wput (kpop K 9) (nI 41)) S S' n m d := ⟨wf, ⟨fun k _ _ => by rw [hS1], fun p q1 _ _ _ _ _ => by rw [hS2, cp_up_ne q1]⟩, fun i hi => (p1 i hi).trans (by rw [kf.1]), fun p q1 q2 i hi => by rw [hS2, cp_up_ne (by omega)], fun i hi => by rw [hS2, cp_up_ne (by decide), cp_up_ne (by decide)]; exact ⟨rfl, rfl⟩⟩
  by_cases h100 : n + 1 ≤ 100
  · refine Or.inl ⟨wput (kpop K 9) (nI 41), S', n + 1, m, T + 1, ⟨by omega, h100, by omega⟩, ⟨⟨dn1, h100⟩, ⟨by rw [hS1]; exact h75, by omega⟩, fun i hi => ?_, by rw [hS1]; exact h74, ?_, fun x hx => by rw [hS1, hS2, cp_up_ne (by decide), cp_up_ne (by decide)]; exact hrw x hx⟩, Nat.le_refl _, dkp, hR1, fun F _ => by rw [List.drop_of_length_le (by omega)]; rfl, wc, ref⟩
    · by_cases hi' : i = n
      · subst hi'
        rw [p2 (by omega), hS2]
        exact ⟨s29_at, 41, by decide, rfl⟩
      · rw [p1 i (by omega), hS2, kf.1, s29_un hi']
        exact hch i (by omega)
    · rw [hS1, hop]
      refine ⟨fun ⟨i, q1, q2⟩ => ⟨i, by omega, by rw [p1 i q1, kf.1]; exact q2⟩, fun ⟨i, q1, q2⟩ => ?_⟩
      by_cases hi' : i = n
      · subst hi'
        rw [p2 (by omega)] at q2
        exact absurd q2 (by decide)
      · rw [p1 i (by omega), kf.1] at q2
        exact ⟨i, by omega, q2⟩
  · have n100 : n = 100 := by omega
    subst n100
    have q7 := wf.2.2.1 7 (by decide)
    obtain ⟨K', a1, a2, a3⟩ := wlong V h5 (x1 := x1) (100 - T) (T + 1) (wput (kpop K 9) (nI 41)) L (by omega) (q7.2.trans e1) (q7.1.trans e2) dn1 hR1 hL (by omega)
    refine Or.inr ⟨⟨K', wf.trans a1, a2, wc _ _ a3⟩, ?_⟩
    obtain ⟨S2, b1, b2⟩ : RLO x d 101 S' := by
      by_cases h0 : d = 0
      · subst h0
        exact ⟨S', FDR.refl, b_M_draw_28 ⟨fun _ => ⟨fun h => absurd h (by decide), fun _ => ⟨rfl, rfl⟩⟩, fun h => absurd (by decide) h⟩⟩
      · exact RLO.of (by decide) (by decide) (by omega) (by omega)
    exact ⟨S2, dkp.2.1.trans b1, ref _ _ b2⟩
theorem dra_s (V : VI f N a nv nc ρ hl C) {x1 x : Int32} {W s d t : Nat} {A : List (Nat × Nat)} (hs : s < 6000) (hd2 : d ≤ 100) (hA1 : A.length ≤ 6) (h55 : a 55 s = nI A.length) (h54 : a 54 s = nI t) (ht : t + A.length ≤ 6000) (hA6 : ∀ q ∈ A, ρ q.1 q.2) (hA8 : ∀ i (hi : i < A.length), a 56 (t + i) = nI A[i].2) (pv : DPV f N a ρ x1 x W) {rem : Nat} (ih : DPA f N a ρ x1 x W s d A rem) : DPA f N a ρ x1 x W s d A (rem + 1) := by
  intro k n m T K S L hk hW e1 e2 ge hst hT hd hR hL hl h61 h62
  have hkA : k < A.length := by omega
  have hq : ρ A[k].1 A[k].2 := hA6 _ (List.getElem_mem hkA)
  have hdr : A.drop k = A[k] :: A.drop (k + 1) := List.drop_eq_getElem_cons hkA
  have hn1 := hst.1.2
  have hn : n ≤ 100 := hn1
  have lk3 := (lk_spec V hq).2.2.2 S (ge 52 (by omega) (by omega)) (ge 53 (by omega) (by omega))
  obtain ⟨Sf, g1, g2, g3, g4, g5, g6, g7⟩ := fur1 (S := S) (d := d) (k := k) (s := s) (m := A.length) (t := t) (by omega) h61 hs h62 (by rw [ge 55 (by omega) (by omega)]; exact h55) hkA hA1 (by rw [ge 54 (by omega) (by omega)]; exact h54) ht (by rw [ge 56 (by omega) (by omega)]; exact hA8 k hkA) lk3
  rw [hdr, List.map_cons, List.cons_append] at hR
  have vl : VLS ρ ((A.drop (k + 1)).map (fun q => nI q.1) ++ (-1 :: L)) := VLS.args (fun q hq => hA6 q (List.mem_of_mem_drop hq)) hL.neg
  have ll : ((A.drop (k + 1)).map (fun q => nI q.1) ++ (-1 :: L)).length ≤ 4 * n := by
    rw [List.length_append, List.length_map, List.length_drop, List.length_cons]
    omega
  have geF : GE Sf a := ge.fw g2
  obtain ⟨r1, S1, m1, alt⟩ := pv A[k].1 A[k].2 n m T (d + 1) K Sf _ hW hq e1 e2 geF (hst.fw g2) hT (by omega) hR vl ll g3 g4
  -- what the reference does until the next head of its loop
  have ref : RCO x (d + 1) n S (d + 2) r1 S1 := fun o S2 w => by
    refine b_M_draw_28 ?_
    unfold wp_M_draw_28
    rw [nI_pred, nI_clamp (show d < 2 ^ 31 by omega), h61, nI_clamp (show s < 2 ^ 31 by omega), h62, ge 55 (by omega) (by omega), h55]
    have vd : vp_in (nI d) 210 := vp_in_nI (by omega) (by decide)
    have vs : vp_in (nI s) 6000 := vp_in_nI hs (by decide)
    refine ⟨fun h => absurd h (nI_nle (by omega) (by omega)), fun _ => ⟨fun h => absurd h (nI_nlt (a := 100) (b := n) hn1 (by decide)), fun _ => ⟨vd, vd, vs, fun h => absurd ((nI_leq (by omega) (by omega)).mp h) (by omega), fun _ => ⟨nI (d + 2), Sf, g1, ?_, nI r1, S1, ?_, b_M_draw_113 w⟩⟩⟩⟩
    · rw [show d + 2 = (d + 1) + 1 from rfl, nI_pred]
      exact vp_in_nI (show d + 1 < 210 by omega) (by decide)
    · rw [show nI (d + 2) - 1 = nI (d + 1) from nI_pred (d + 1), nI_clamp (show d + 1 < 2 ^ 31 by omega), g3]
      exact m1
  have fdf : FDR S Sf := FDR.of g2
  rcases alt with ⟨K', S', n', m', T', ⟨b1, b2, b3⟩, b4, b5, b6, b7, b8, b9, b10⟩ | ⟨b1, ⟨S', b2, b3⟩, b4⟩
  · obtain ⟨c1, c2, c3, c4, c5⟩ := b6
    have w7 := c1.2.2.1 7 (by decide)
    have p61 : S'.2 61 d = nI s := by rw [(c5 d (by omega)).1]; exact g6
    have p62 : S'.2 62 d = nI (k + 1) := by rw [(c5 d (by omega)).2]; exact g5
    have dk0 : DKP K K' S S' n m d := ⟨c1, fdf.trans c2, c3, fun p p1 p2 i hi => (c4 p p1 p2 i hi).trans (by rw [g2.2 p (by omega) (by omega)]), fun i hi => ⟨(c5 i (by omega)).1.trans (g7 i hi).1, (c5 i (by omega)).2.trans (g7 i hi).2⟩⟩
    rcases ih (k + 1) n' m' T' K' S' L (by omega) (by omega) (w7.2.trans e1) (w7.1.trans e2) (geF.fd c2) b4 b3 (by omega) b7 hL (by omega) p61 p62 with ⟨K2, S2, n2, m2, T2, ⟨d1, d2, d3⟩, d4, d5, d6, d7, d8, d9, d10⟩ | ⟨d1, S2, d2, d3⟩
    · refine Or.inl ⟨K2, S2, n2, m2, T2, ⟨by omega, d2, d3⟩, d4, by omega, dk0.trans d6 (by omega) (by omega) (Nat.le_refl _), d7, fun F hF => ?_, fun o K3 w => b9 o K3 (d9 o K3 w), fun o S3 w => ref o S3 (b10 o S3 (d10 o S3 w))⟩
      rw [hdr]
      refine ⟨m', VT.cg F _ _ _ _ (fun p p1 p2 y hy => d6.2.2.2.1 p p1 p2 y hy) (VT.mono _ F _ _ _ _ (by omega) b8), d8 F (by omega)⟩
    · obtain ⟨K3, f1, f2, f3⟩ := d1
      exact Or.inr ⟨⟨K3, c1.trans f1, f2, b9 _ _ f3⟩, S2, (fdf.trans c2).trans d2, ref _ _ (b10 _ _ d3)⟩
  · exact Or.inr ⟨b1, S', (fdf.trans b4).trans b2, ref _ _ b3⟩
theorem drw (V : VI f N a nv nc ρ hl C) (h5 : ∀ v r, ρ v r → ¬ f v = 5) {x1 x : Int32} : ∀ W, DPV f N a ρ x1 x W := by
  intro W
  induction W with
  | zero =>
    intro v r n m T d K S L hW _ _ _ _ hst
    have := hst.1.2
    omega
  | succ W ih =>
    intro v r n m T d K S L hW h e1 e2 ge hst hT hdn hR hL hl h61 h62
    obtain ⟨⟨hn, hn1⟩, ⟨h75, hm⟩, hch, h74, hop, hrw⟩ := hst
    obtain ⟨g1, g2, -, -⟩ := lk_spec V h
    obtain ⟨cs, t, A, ⟨c1, c2, c3, c4⟩, ⟨A1, A2, A3, A4, A5, A6, A7, A8⟩, hc, hr⟩ := head_m V h5 g1 g2
    have hs6 : (lk f N a ρ v r).2 < 6000 := by
      have := (V.1.1 _ _ g1).2.1
      have := V.2.2.2.2.2.1
      omega
    have kf : KF [9] K (kpop K 9) := KF.pop
    have k7 := kf.2.2.1 7 (by decide)
    obtain ⟨K1, q1, q2, q3, q4, q5, q6⟩ := hc (kpop K 9) n L (k7.2.trans e1) (k7.1.trans e2) (hn.kf kf) hR.pop.1 (by omega)
    obtain ⟨r1, S1, m1, m2, m3, m4, m5⟩ := hr S m n ge h75 (by omega) hn1 h74
    have wv := write_v V (x1 := x1) h (show T ≤ 100 by omega) e1 e2 hR (by omega) q1
    have q7 := q3.2.2.1 7 (by decide)
    have wf : WF K K1 := (WF.of kf).trans q3
    have geS := ge.fd m5.fd
    have fd1 := m5.fd
    refine ⟨r1, S1, m1, ?_⟩
    by_cases h100 : n + cs.length ≤ 100
    · have hr1 := m2 h100
      obtain ⟨d1, d2, ⟨d3, d4⟩, d5, d6, d7, ⟨d8, d8', d8''⟩, d9⟩ := m5
      rw [show min (n + cs.length) 101 = n + cs.length by omega] at q2
      rw [show min (m + 1) 100 = m + 1 by omega] at d2
      have st1 : DST K1 S1 (n + cs.length) (m + 1) := by
        refine ⟨⟨q2, h100⟩, ⟨d2, by omega⟩, fun i hi => ?_, d3, ?_, fun x hx r1 r2 => ?_⟩
        · by_cases hi' : i < n
          · rw [d6 i hi', q4 i hi', kf.1]; exact hch i hi'
          · have := d7 h100 (i - n) (by omega)
            rw [show n + (i - n) = i by omega] at this
            have g := q5 (i - n) (by omega) (by omega)
            rw [show n + (i - n) = i by omega] at g
            rw [this, g]
            exact ⟨rfl, _, c2 _ (List.getElem_mem (show i - n < cs.length by omega)), rfl⟩
        · rw [d4, hop, ge 52 (by omega) (by omega), ← V.h4 g1, ← c3]
          refine ⟨fun q => ?_, fun ⟨i, i1, i2⟩ => ?_⟩
          · rcases q with ⟨i, i1, i2⟩ | q
            · exact ⟨i, by omega, by rw [q4 i i1, kf.1]; exact i2⟩
            · obtain ⟨i, i1, i2⟩ := List.mem_iff_getElem.mp q
              exact ⟨n + i, by omega, by rw [q5 i i1 (by omega), i2]⟩
          · by_cases hi' : i < n
            · rw [q4 i hi', kf.1] at i2
              exact Or.inl ⟨i, hi', i2⟩
            · have g := q5 (i - n) (by omega) (by omega)
              rw [show n + (i - n) = i by omega, i2] at g
              have hx := c2 _ (List.getElem_mem (show i - n < cs.length by omega))
              have := (nI_eq (by omega) (by omega)).mp g
              exact Or.inr (this ▸ List.getElem_mem _)
        · by_cases hx' : x < m
          · rw [d9 79 (by omega) (by omega) x hx'] at r1
            rw [d9 80 (by omega) (by omega) x hx'] at r2
            exact d4.mpr (Or.inl (hrw x hx' r1 r2))
          · rw [show x = m by omega] at r1 r2
            rw [d8, ge 52 (by omega) (by omega)] at r1
            rw [d8', ge 53 (by omega) (by omega)] at r2
            refine d4.mpr (Or.inr ?_)
            rw [ge 52 (by omega) (by omega)]
            obtain ⟨-, -, vc⟩ := V.1.1 _ _ g1
            rcases vc with q | q | q | q | q
            · rw [if_pos q.2.1] at r1; exact absurd r1 (by decide)
            · rw [if_neg (by rw [q.2.1]; decide), if_pos q.2.1] at r1; exact absurd r1 (by decide)
            · exact absurd q.1 (h5 _ _ g1)
            · exact q.2.1
            · obtain ⟨-, -, l, m', t', l1, -, -, w1, -⟩ := q
              rw [w1] at r2
              exact absurd r2 (nI_m1 (by omega))
      have dk1 : DKP K K1 S S1 n m d := ⟨wf, fd1, fun i hi => (q4 i hi).trans (by rw [kf.1]), d9, fun i hi => by rw [d5 61 (by decide) (by decide) (by decide) (by decide), d5 62 (by decide) (by decide) (by decide) (by decide)]; exact ⟨rfl, rfl⟩⟩
      have p61 : S1.2 61 d = nI (lk f N a ρ v r).2 := by rw [d5 61 (by decide) (by decide) (by decide) (by decide)]; exact h61
      have p62 : S1.2 62 d = 0 := by rw [d5 62 (by decide) (by decide) (by decide) (by decide)]; exact h62
      rw [ge 52 (by omega) (by omega)] at d8
      rw [ge 53 (by omega) (by omega)] at d8'
      rw [ge 55 (by omega) (by omega)] at d8''
      by_cases hA0 : A.length = 0
      · -- nothing below it
        have hnil : A = [] := List.length_eq_zero_iff.mp hA0
        subst hnil
        refine Or.inl ⟨K1, S1, n + cs.length, m + 1, T + 1, ⟨by omega, h100, by omega⟩, st1, by omega, dk1, q6, ?_, wv, fun o S2 w => ?_⟩
        · rw [show (n + cs.length - n + 2) / 3 = ((n + cs.length - n - 1) / 3) + 1 by omega]
          exact ⟨h, [], A1, A2, A5, A7, d8, d8', d8''.trans A3, rfl⟩
        · refine b_M_draw_28 ?_
          unfold wp_M_draw_28
          rw [hr1, nI_pred, nI_clamp (show d < 2 ^ 31 by omega), p61, nI_clamp (show (lk f N a ρ v r).2 < 2 ^ 31 by omega), p62, geS 55 (by omega) (by omega), A3]
          have vd : vp_in (nI d) 210 := vp_in_nI (by omega) (by decide)
          have vs : vp_in (nI (lk f N a ρ v r).2) 6000 := vp_in_nI hs6 (by decide)
          refine ⟨fun q => absurd q (nI_nle (by omega) (by omega)), fun _ => ⟨fun q => absurd q (nI_nlt (a := 100) (b := n + cs.length) h100 (by decide)), fun _ => ⟨vd, vd, vs, fun _ => ⟨vs, fun _ => b_M_draw_110 ?_, fun q => absurd (by decide) q⟩, fun q => absurd (by decide) q⟩⟩⟩
          unfold wp_M_draw_110
          rw [show nI (d + 1) + (-1) = nI d from by rw [← nI_pred d, Int32.sub_eq_add_neg]]
          exact b_M_draw_113 w
      · have A0 : 0 < A.length := by omega
        obtain ⟨t1, t2⟩ := A4 A0
        obtain ⟨cl1, cl2⟩ := c4 A0
        rw [if_neg hA0] at q6
        have pa : ∀ rem, DPA f N a ρ x1 x W (lk f N a ρ v r).2 d A rem := fun rem => by
          induction rem with
          | zero => exact dra_0 V h5 hs6 A1 A0 A3
          | succ rem ihr => exact dra_s V hs6 (by omega) A1 A3 t1 t2 A6 A8 ih ihr
        rcases pa A.length 0 (n + cs.length) (m + 1) (T + 1) K1 S1 L (by omega) (by omega) (q7.2.trans (k7.2.trans e1)) (q7.1.trans (k7.1.trans e2)) geS st1 (by omega) (by omega) (by rw [List.drop_zero]; exact q6) hL (by omega) p61 p62 with ⟨K', S', n', m', T', ⟨b1, b2, b3⟩, b4, b5, b6, b7, b8, b9, b10⟩ | ⟨⟨K', b1, b2, b3⟩, b4⟩
        · refine Or.inl ⟨K', S', n', m', T', ⟨by omega, b2, b3⟩, b4, by omega, dk1.trans b6 (by omega) (by omega) (Nat.le_refl _), b7, ?_, fun o K3 w => wv o K3 (b9 o K3 w), by rw [hr1]; exact b10⟩
          rw [show (n' - n + 2) / 3 = ((n' - n - 1) / 3) + 1 by omega]
          have rk := b6.2.2.2.1
          refine ⟨h, A, A1, A2, A5, A7, by rw [rk 79 (by omega) (by omega) m (by omega)]; exact d8, by rw [rk 80 (by omega) (by omega) m (by omega)]; exact d8', by rw [rk 81 (by omega) (by omega) m (by omega)]; exact d8''.trans A3, ?_⟩
          have := b8 ((n' - n - 1) / 3) (by omega)
          rw [List.drop_zero] at this
          exact this
        · exact Or.inr ⟨⟨K', wf.trans b1, b2, wv _ _ b3⟩, by rw [hr1]; exact b4, fd1⟩
    · -- too long
      have hr1 := m3 (by omega)
      rw [show min (n + cs.length) 101 = 101 by omega] at q2
      have vl : VLS ρ (A.map (fun q => nI q.1) ++ (if A.length = 0 then L else -1 :: L)) := VLS.args A6 (by split; exact hL; exact hL.neg)
      have ln : (A.map (fun q => nI q.1) ++ (if A.length = 0 then L else -1 :: L)).length ≤ 7 + L.length := by
        rw [List.length_append, List.length_map]
        split
        · omega
        · rw [List.length_cons]; omega
      obtain ⟨K', b1, b2, b3⟩ := wlong V h5 (x1 := x1) (100 - T) (T + 1) K1 _ (by omega) (q7.2.trans (k7.2.trans e1)) (q7.1.trans (k7.1.trans e2)) q2 q6 vl (by omega)
      exact Or.inr ⟨⟨K', wf.trans b1, b2, wv _ _ b3⟩, RLO.of hr1 (by omega) (by omega) (by omega), fd1⟩
/-- the methods: both write the same, or neither can -/
theorem draw_m (V : VI f N a nv nc ρ hl C) (h5 : ∀ v r, ρ v r → ¬ f v = 5) {v r : Nat} (h : ρ v r) {K : cp_K} {S : cp_S} (e1 : rat K 7 = f) (e2 : rsz K 7 = N) (ge : GE S a) (hz : rsz K 9 < 16000) :
    (∃ K' S' n m, 1 ≤ n ∧ n ≤ 100 ∧ KC 10 m_V_write (fun G => [.ref (cp_b G + 6), .int (nI v)]) K (fun _ => some (.int (nI n))) K' ∧ MC 2 m_M_draw [.int (nI r)] S (some (.int (nI n))) S' ∧ WF K K' ∧ FDR S S' ∧ DST K' S' n m ∧ rsz K' 9 = 0 ∧ VT f N a ρ S'.2 34 v r 0 m) ∨
    (∃ K' S', KC 10 m_V_write (fun G => [.ref (cp_b G + 6), .int (nI v)]) K (fun _ => some (.int (nI 101))) K' ∧ MC 2 m_M_draw [.int (nI r)] S (some (.int (-200))) S' ∧ WF K K' ∧ FDR S S' ∧ rsz K' 9 ≤ 1300) := by
  have hN := V.2.2.2.2.2.2.2
  obtain ⟨K0, hK0⟩ : ∃ K0, K0 = kpush (kcut (kI K 6 4 0) 9 0) 9 (nI v) := ⟨_, rfl⟩
  have kc : KF [9] (kI K 6 4 0) K0 := by rw [hK0]; exact KF.cut.trans (KF.push (by decide))
  have wf0 : WF K K0 := WF.trans (K1 := kI K 6 4 0) ⟨fun p k h1 h2 => by
    rw [kI_i]
    by_cases hp : p = 6
    · subst hp
      rw [va_up_at, cp_up_ne (fun e => h2 ⟨rfl, e⟩)]
    · rw [cp_up_ne hp], rfl, fun _ _ => ⟨rfl, rfl⟩, Nat.le_refl _, fun _ _ => rfl, fun h => ⟨h, Nat.le_refl _⟩⟩ (WF.of kc)
  have q7 := wf0.2.2.1 7 (by decide)
  have dn0 : DN K0 0 := ⟨by rw [kc.1, kI_i, va_up_at, va_up_at]; rfl, by decide⟩
  have rs0 : RS (kcut (kI K 6 4 0) 9 0) 9 [] := RS.nil (by show rsz K 9 < 2 ^ 31; omega)
  have hR0 : RS K0 9 [nI v] := by rw [hK0]; exact rs0.push
  have cls : ∀ (o : Int32) (K' : cp_K), JC 10 m_V_write (fun _ => .inl (some (.int o))) K' 23 (fun G => [(0, .ref (cp_b G + 6)), (1, .int (nI v)), (2, .int (nI 0))]) (fun _ => []) K0 → KC 10 m_V_write (fun G => [.ref (cp_b G + 6), .int (nI v)]) K (fun _ => some (.int o)) K' := fun o K' w => c_V_write (D := 2) ⟨by rw [rs0.1]; show 0 < 16384; omega, by rw [← hK0]; exact w⟩
  obtain ⟨S0, hS0⟩ : ∃ S0 : cp_S, S0 = (va_up (va_up S.1 75 0) 74 0, S.2) := ⟨_, rfl⟩
  obtain ⟨Sf, hSf⟩ : ∃ Sf : cp_S, Sf = (S0.1, va_up (va_up S0.2 61 (upd (S0.2 61) 0 (nI (lk f N a ρ v r).2))) 62 (upd (S0.2 62) 0 0)) := ⟨_, rfl⟩
  have s01 : S0.1 = va_up (va_up S.1 75 0) 74 0 := by rw [hS0]
  have s02 : S0.2 = S.2 := by rw [hS0]
  have sf1 : Sf.1 = S0.1 := by rw [hSf]
  have sf2 : Sf.2 = va_up (va_up S0.2 61 (upd (S0.2 61) 0 (nI (lk f N a ρ v r).2))) 62 (upd (S0.2 62) 0 0) := by rw [hSf]
  have fd0 : FDR S Sf := ⟨fun k h1 h2 => by rw [sf1, s01, cp_up_ne h1, cp_up_ne h2], fun p _ h2 h3 _ _ _ => by rw [sf2, cp_up_ne h3, cp_up_ne h2, s02]⟩
  have seen := (lk_spec V h).2.2.2 S0 (by rw [s02]; exact ge 52 (by omega) (by omega)) (by rw [s02]; exact ge 53 (by omega) (by omega))
  have so : MC 1 m_M_setOut [.int (nI r)] S0 (some (.int 1)) Sf := c_M_setOut (b_M_setOut_0 ⟨nI (lk f N a ρ v r).2, S0, seen, vp_in_nI (show 0 < 210 by omega) (by decide), vp_in_nI (show 0 < 210 by omega) (by decide), rfl, hSf⟩)
  have p61 : Sf.2 61 0 = nI (lk f N a ρ v r).2 := by rw [sf2, cp_up_ne (by decide), va_up_at, pk_us]
  have p62 : Sf.2 62 0 = 0 := by rw [sf2, va_up_at, pk_us]
  have f74 : Sf.1 74 = 0 := by rw [sf1, s01, va_up_at]
  have f75 : Sf.1 75 = nI 0 := by rw [sf1, s01, cp_up_ne (by decide), va_up_at]; rfl
  have st0 : DST K0 Sf 0 0 := ⟨⟨dn0, by decide⟩, ⟨f75, Nat.le_refl _⟩, fun i hi => absurd hi (by omega), Or.inl f74, ⟨fun q => absurd (f74.symm.trans q) (by decide), fun ⟨i, hi, _⟩ => absurd hi (by omega)⟩, fun x hx => absurd hx (by omega)⟩
  have geF := ge.fd fd0
  obtain ⟨r1, S1, m1, alt⟩ := drw V h5 (x1 := nI v) (x := nI r) 101 v r 0 0 0 0 K0 Sf [] (by omega) h (q7.2.trans e1) (q7.1.trans e2) geF st0 (Nat.le_refl _) (Nat.le_refl _) hR0 (fun x hx => by cases hx) (Nat.zero_le _) p61 p62
  have ref : ∀ (o : Option Value) (S' : cp_S), JJ 2 m_M_draw o S' 28 [(1, .int (nI r)), (2, .int (nI 1)), (3, .int (nI r1))] S1 → MC 2 m_M_draw [.int (nI r)] S o S' := fun o S' w => by
    refine c_M_draw (b_M_draw_0 ?_)
    unfold wp_M_draw_0
    rw [← hS0]
    refine ⟨1, Sf, so, vp_in_nI (show 0 < 210 by omega) (by decide), nI r1, S1, ?_, w⟩
    rw [show Int32.toNatClampNeg 0 = 0 from rfl, p61]
    exact m1
  rcases alt with ⟨K', S', n', m', T', ⟨b1, b2, b3⟩, b4, b5, b6, b7, b8, b9, b10⟩ | ⟨⟨K', b1, b2, b3⟩, ⟨S', c1, c2⟩, b4⟩
  · refine Or.inl ⟨K', S', n', m', by omega, b2, cls _ _ (b9 _ _ ?_), ref _ _ (b10 _ _ ?_), wf0.trans b6.1, fd0.trans b6.2.1, b4, b7.1, VT.mono _ 34 _ _ _ _ (by omega) b8⟩
    · refine b_V_write_23 (D := 2) ⟨fun _ => ⟨by rw [b4.1.1.1], rfl⟩, fun _ => ⟨fun _ => ⟨by rw [b4.1.1.1], rfl⟩, fun q => absurd (by rw [b7.1]; decide) q⟩⟩
    · have : nI n' ≤ 100 := nI_le (b := 100) b2 (by decide)
      exact b_M_draw_28 ⟨fun _ => ⟨fun _ => ⟨rfl, rfl⟩, fun q => absurd this q⟩, fun q => absurd (by decide) q⟩
  · exact Or.inr ⟨K', S', cls _ _ b3, ref _ _ c2, wf0.trans b1, (fd0.trans b4).trans c1, b2⟩
end CPDW
