/-! ===== types: the arguments of a run ===== -/
section CPAR
variable {ar : Nat → Nat} {rf : Nat} {pl : Nat → Nat → Prop} {lev n nE : Nat} {K : cp_K} {S : cp_S} {ρ : Nat → Nat → Prop} {nv nc : Nat} {hl : List Nat} {C F : Nat} {L : Nat → Nat → Nat → Nat → Prop}
theorem TPO.push {a1 a2 a3 : Int32} (st : TST ar rf pl nE n K S ρ nv nc hl C F L) : TPO ar rf pl lev n (n + 1) K S ρ nv nc hl C F L (bpush K a1 a2 a3) S ρ nv nc hl C F L := by
  obtain ⟨⟨⟨⟨V, hh, hA⟩, h35, h9, h11⟩, h42, hs, hd4⟩, -, -, -, -, hB, -⟩ := st
  have kb : KF [15, 17, 19] K (bpush K a1 a2 a3) := KF.bpush
  have e7 := kb.2.2.1 7 (by decide)
  refine TPO.ev hs hd4 hh h42 ⟨⟨by rw [e7.1, e7.2]; exact V, by rw [e7.1]; exact hh, by rw [e7.2]; exact hA⟩, h35, by rw [(kb.2.2.1 9 (by decide)).1]; exact h9, by rw [(kb.2.2.1 11 (by decide)).1]; exact h11⟩ (fun _ _ w => w) (KX.of kb (by decide)) (by rw [kb.1]) hB.push (fun q hq x hx => ?_) (by rw [e7.1]; exact Nat.le_refl _) (fun x _ => by rw [e7.2]) (fun _ _ => rfl) (fun _ _ => rfl) (fun _ _ => rfl) (fun _ _ _ _ _ => rfl) (fun _ _ _ _ _ => rfl) (fun _ _ => rfl)
  rcases hq with rfl | rfl | rfl
  · rw [bpush_at15, cp_up_ne (by rw [hB.1]; omega)]
  · rw [bpush_at17, cp_up_ne (by rw [hB.2.1]; omega)]
  · rw [bpush_at19, cp_up_ne (by rw [hB.2.2]; omega)]
abbrev LW (p1 q : Nat) : cp_G → List (Nat × Value) := fun G => [(0, .ref (cp_b G + 24)), (1, va_rf (kr G p1)), (2, va_rf (kr G q))]
abbrev LR (x1 x2 x3 x4 : Int32) (mt : Nat) (x6 x7 x8 : Int32) : List (Nat × Value) := [(1, .int x1), (2, .int x2), (3, .int x3), (4, .int x4), (5, .int (nI mt)), (6, .int x6), (7, .int x7), (8, .int x8)]
theorem run_bad {x1 x2 x3 x7 x8 : Int32} {mt : Nat} : JJ 8 m_M_run (some (.int (-100 - S.1 59))) (va_up S.1 16 x3, S.2) 112 (LR x1 x2 x3 (-1) mt 0 x7 x8) S := by
  have g211 : ∀ x7 x8, JJ 8 m_M_run (some (.int (-100 - S.1 59))) (va_up S.1 16 x3, S.2) 211 (LR x1 x2 x3 (-1) mt 0 x7 x8) S := fun x7 x8 => b_M_run_211 ⟨fun h => absurd rfl h, fun _ => ⟨fun _ => ⟨rfl, rfl⟩, fun h => absurd (by decide) h⟩⟩
  have g165 : JJ 8 m_M_run (some (.int (-100 - S.1 59))) (va_up S.1 16 x3, S.2) 165 (LR x1 x2 x3 (-1) mt 0 x7 x8) S := b_M_run_165 (b_M_run_171 ⟨fun _ => g211 _ _, fun _ => ⟨fun _ => g211 _ _, fun h => absurd rfl h⟩⟩)
  exact b_M_run_112 ⟨fun _ => g165, fun _ => ⟨fun _ => g165, fun h => absurd rfl h⟩⟩
theorem wargs {k p1 mt j : Nat} {x1 x2 x3 : Int32} (hj : j < 2720) (hk : k ≤ 9) (hmt : mt ≤ 6) : ∀ (rem q t i u : Nat) (K : cp_K) (S : cp_S) (ρ : Nat → Nat → Prop) (nv nc : Nat), TST ar rf pl 0 t K S ρ nv nc [] 0 0 L0 → t + rem = mt → CHN (TR K S.2 pl k) K rem q i j → gH S.2 j = gH S.2 i → j - i ≤ 100 → (nv ≤ u ∧ nc ≤ u ∧ u + 100 * (gI S.2 j - gI S.2 i) + (k + 2) * (j - i) + 100 * rem ≤ 5590) → rsz K 7 + 6500 * (j - i) < 1040000 →
    (∃ (K' : cp_K) (S' : cp_S), JC 371 m_T_wrongInArguments (fun _ => .inl (some (.int (K'.2.1 24 6)))) K' 10 (LW p1 q) (fun _ => []) K ∧ JJ 8 m_M_run (some (.int (-100 - S'.1 59))) (va_up S'.1 16 x3, S'.2) 112 (LR x1 x2 x3 (-1) mt 1 (nI i) (nI t)) S ∧ BDQ K S K' S') ∨
    ∃ (K' : cp_K) (S' : cp_S) (ρ' : Nat → Nat → Prop) (nv' nc' : Nat), JC 371 m_T_wrongInArguments (fun _ => .inl (some (.int (-1)))) K' 10 (LW p1 q) (fun _ => []) K ∧ (∀ o Sx, (∀ x7 x8, JJ 8 m_M_run o Sx 165 (LR x1 x2 x3 (-1) mt 1 x7 x8) S') → JJ 8 m_M_run o Sx 112 (LR x1 x2 x3 (-1) mt 1 (nI i) (nI t)) S) ∧ TPO ar rf pl 1 t mt K S ρ nv nc [] 0 0 L0 K' S' ρ' nv' nc' [] 0 0 L0 ∧ CTL (CTX K' [] 0 L0 k) K' (rat K' 17) rem q t ∧ VAL S' ar L0 i j ∧ (nv ≤ nv' ∧ nc ≤ nc' ∧ nv' ≤ u + 100 * (gI S.2 j - gI S.2 i) + (k + 2) * (j - i) + 100 * rem ∧ nc' ≤ u + 100 * (gI S.2 j - gI S.2 i) + (k + 2) * (j - i) + 100 * rem ∧ rsz K' 7 ≤ rsz K 7 + 6500 * (j - i))
  | 0, q, t, i, u, K, S, ρ, nv, nc, st, htm, ch, hH, hij, hu, h7 => by
    obtain ⟨rfl, rfl⟩ := ch
    have : t = mt := by omega
    subst this
    exact Or.inr ⟨K, S, ρ, nv, nc, b_T_wrongInArguments_10 (D := 363) ⟨fun _ => ⟨rfl, rfl⟩, fun h => absurd rfl h⟩, fun o Sx w => b_M_run_112 ⟨fun _ => w _ _, fun h => absurd (nI_le (Nat.le_refl _) (by omega)) h⟩, st.refl, trivial, fun x x1 x2 => by omega, ⟨Nat.le_refl _, Nat.le_refl _, by omega, by omega, by omega⟩⟩
  | rem + 1, q, t, i, u, K, S, ρ, nv, nc, st, htm, ch, hH, hij, hu, h7 => by
    obtain ⟨nq, i', ht, ch⟩ := ch
    have lt1 := SH_lt _ _ _ (TR.sh _ _ _ _ ht)
    have haj : i' ≤ j := SHL_le (fun _ _ => SH_lt _ _ _) rem i' j (CHN_SHL (TR.sh k) rem _ _ _ ch) |> fun h => by omega
    have g1 := (GW_b (b := S.2)).1 i i' (by omega)
    have g2 := (GW_b (b := S.2)).1 i' j haj
    have mm : (k + 2) * (j - i) = (k + 2) * (i' - i) + (k + 2) * (j - i') := by rw [← Nat.mul_add]; congr 1; omega
    rcases typ_0 (u := u) st ht ⟨by omega, by omega⟩ hk (by omega) (by omega) ⟨hu.1, hu.2.1, by omega⟩ (by omega) with ⟨K1, S1, c1, c2, c3⟩ | ⟨K1, S1, ρ1, nv1, nc1, x, v, lf, ts, c1, c2, c3, c4, c5, c6, ⟨c7, c8, c9, c10⟩, c11, ⟨d1, d2, d3, d4⟩, ⟨d5, d6⟩⟩
    · refine Or.inl ⟨K1, S1, b_T_wrongInArguments_10 (D := 363) ⟨fun h => absurd h (by have := nq.1; omega), fun _ => ⟨-1, K1, c1.mono (by omega), fun h => absurd rfl h, fun _ => ⟨rfl, rfl⟩⟩⟩, ?_, c3⟩
      exact b_M_run_112 ⟨fun h => absurd h (nI_ge (by omega) (by omega)), fun _ => ⟨fun h => absurd h (by decide), fun _ => ⟨-1, S1, c2, fun _ => ⟨fun _ => run_bad, fun h => absurd rfl h⟩, fun h => absurd rfl h⟩⟩⟩
    · have st1 := st.mv c6 (by omega) rfl (Nat.le_refl _)
      have P1 : TPO ar rf pl 1 t (t + 1) K1 S1 ρ1 nv1 nc1 [] 0 0 L0 (bpush K1 0 (nI v) (-1)) S1 ρ1 nv1 nc1 [] 0 0 L0 := TPO.push st1
      have st2 := st1.mv P1 (by omega) rfl (by omega)
      have T2 := c6.trans P1 (Nat.le_refl _) (Nat.le_refl _) (fun _ => ⟨d5, d6⟩)
      have nk2 := T2.2.2.2.2.1.nk
      have nk1 := c6.2.2.2.2.1.nk
      have bk2 := T2.2.2.2.2.2.1.bk
      have gg := g_bk bk2
      have e7 : rsz (bpush K1 0 (nI v) (-1)) 7 = rsz K1 7 := bpush_sz ⟨by decide, by decide, by decide⟩
      have hB1 := st1.2.2.2.2.2.1
      have ht1 : TR K1 S1.2 pl k q i i' := TR.nk nk1 (bk2 39 (by omega)) (bk2 40 (by omega)) (bk2 41 (by omega)) _ _ _ _ ht
      have ht2 : TR (bpush K1 0 (nI v) (-1)) S1.2 pl k q i i' := TR.nk nk2 (bk2 39 (by omega)) (bk2 40 (by omega)) (bk2 41 (by omega)) _ _ _ _ ht
      have into : ∀ (o : Int32) (K' : cp_K), JC 371 m_T_wrongInArguments (fun _ => .inl (some (.int o))) K' 10 (LW p1 (K.2.2.1 q 6)) (fun _ => []) (bpush K1 0 (nI v) (-1)) → JC 371 m_T_wrongInArguments (fun _ => .inl (some (.int o))) K' 10 (LW p1 q) (fun _ => []) K := fun o K' w => b_T_wrongInArguments_10 (D := 363) ⟨fun h => absurd h (by have := nq.1; omega), fun _ => ⟨nI x, K1, c1.mono (by omega), fun _ => ⟨⟨by rw [hB1.1]; show t < 16384; omega, by rw [hB1.2.1]; show t < 16384; omega, by rw [hB1.2.2]; show t < 16384; omega⟩, nk1.2.2 _ _ nq, by rw [c7, bpush_r, nk1.2.1]; exact w⟩, fun h => absurd h (nI_m1 (by have := c6.1.1.1.1.2.2.2.2.2.2.2; omega))⟩⟩
      have rin : ∀ o Sx, JJ 8 m_M_run o Sx 112 (LR x1 x2 x3 (-1) mt 1 (nI i') (nI (t + 1))) S1 → JJ 8 m_M_run o Sx 112 (LR x1 x2 x3 (-1) mt 1 (nI i) (nI t)) S := fun o Sx w => b_M_run_112 ⟨fun h => absurd h (nI_ge (by omega) (by omega)), fun _ => ⟨fun h => absurd h (by decide), fun _ => ⟨ts, S1, c2, fun h => absurd h c3, fun _ => ⟨fun h => absurd h (by decide), fun _ => ⟨nI i', S1, MC_behind (TR.sh _ _ _ _ ht1) (by omega), by rw [nI_1]; exact w⟩⟩⟩⟩⟩
      rcases wargs (p1 := p1) (x1 := x1) (x2 := x2) (x3 := x3) hj hk hmt rem (K.2.2.1 q 6) (t + 1) i' (u + 100 * (gI S.2 i' - gI S.2 i) + (k + 2) * (i' - i) + 100) (bpush K1 0 (nI v) (-1)) S1 ρ1 nv1 nc1 st2 (by omega) (CHN_nk nk2 (TR.nk nk2 (bk2 39 (by omega)) (bk2 40 (by omega)) (bk2 41 (by omega)) k) _ _ _ _ ch) (by rw [gg.2.2.1]; omega) (by omega) ⟨by omega, by omega, by rw [gg.1]; omega⟩ (by omega) with ⟨K', S', b1, b2, b3⟩ | ⟨K', S', ρ', nv', nc', b1, b2, b3, b4, b5, ⟨b6, b7, b8, b9, b10⟩⟩
      · exact Or.inl ⟨K', S', into _ _ b1, rin _ _ b2, BDQ.pre T2 (by omega) b3⟩
      · rw [gg.1] at b8 b9
        refine Or.inr ⟨K', S', ρ', nv', nc', into _ _ b1, fun o Sx w => rin _ _ (b2 o Sx w), (T2.trans b3 (Nat.le_refl _) (by omega) (fun _ => ⟨d5, d6⟩)), ⟨v, c8, ?_, ?_, ?_⟩, (c10.mv b3.2.2.2.2.2.1.bk (b3.2.2.2.2.2.1.2.1 64 (by omega)) (fun _ _ _ _ w => w)).join b5, ⟨by omega, by omega, by omega, by omega, by omega⟩⟩
        · rw [b3.2.2.2.2.2.2.2 17 (by decide) t (by omega), bpush_at17, hB1.2.1, va_up_at]
        · exact (c9.mv ht1 (Nat.zero_le _) P1).mv ht2 (Nat.zero_le _) b3
        · rw [b3.2.2.2.2.1.nk.2.1, bpush_r, nk1.2.1]
          exact b4
/-- the arguments are evaluated anew -/
theorem vargs {k mt j : Nat} {x1 x2 x3 x4 : Int32} (hj : j < 2720) (hmt : mt ≤ 6) (K : cp_K) : ∀ (rem q t i : Nat) (S : cp_S) (ρ : Nat → Nat → Prop) (nv nc : Nat), TST ar rf pl 0 mt K S ρ nv nc [] 0 0 L0 → t + rem = mt → CHN (TR K S.2 pl k) K rem q i j → CTL (CTX K [] 0 L0 k) K (rat K 17) rem q t → VAL S ar L0 i j → CAR K S ρ 0 t → j - i ≤ 100 → nv + (j - i) < 6000 → nc + (j - i) < 6000 →
    ∃ (S' : cp_S) (ρ' : Nat → Nat → Prop) (nv' nc' : Nat), (∀ o Sx, (∀ x7 x8, JJ 8 m_M_run o Sx 211 (LR x1 x2 x3 x4 mt 1 x7 x8) S') → JJ 8 m_M_run o Sx 171 (LR x1 x2 x3 x4 mt 1 (nI i) (nI t)) S) ∧ TPO ar rf pl 1 mt mt K S ρ nv nc [] 0 0 L0 K S' ρ' nv' nc' [] 0 0 L0 ∧ CAR K S' ρ' 0 mt ∧ (nv ≤ nv' ∧ nc ≤ nc' ∧ nv' ≤ nv + (j - i) ∧ nc' ≤ nc + (j - i))
  | 0, q, t, i, S, ρ, nv, nc, st, htm, ch, ct, va, ca, hij, hnv, hnc => by
    have : t = mt := by omega
    subst this
    exact ⟨S, ρ, nv, nc, fun o Sx w => b_M_run_171 ⟨fun _ => w _ _, fun h => absurd (nI_le (Nat.le_refl _) (by omega)) h⟩, st.refl, ca, ⟨Nat.le_refl _, Nat.le_refl _, by omega, by omega⟩⟩
  | rem + 1, q, t, i, S, ρ, nv, nc, st, htm, ch, ct, va, ca, hij, hnv, hnc => by
    obtain ⟨nq, i', ht, ch⟩ := ch
    obtain ⟨v, v1, v2, v3, ct⟩ := ct
    have lt1 := SH_lt _ _ _ (TR.sh _ _ _ _ ht)
    have haj : i' ≤ j := SHL_le (fun _ _ => SH_lt _ _ _) rem i' j (CHN_SHL (TR.sh k) rem _ _ _ ch) |> fun h => by omega
    obtain ⟨⟨st0, h42, hs, hd4⟩, hF, nmS, -, ⟨p20, plf, pli⟩, hB, hnE, -, -⟩ := id st
    obtain ⟨r, S1, ρ1, nv1, nc1, r1, r2, r3, r4, r5, r6, -⟩ := evt st0 nmS hs pli ht v3 (fun x a b => va x a (by omega)) (by omega) (by omega) (by omega) (by omega)
    obtain ⟨y1, y2, y3, y4, y5, y6, y7, y8, y9, y10, y11, y12, y13⟩ := id r1
    obtain ⟨S2, hS2⟩ : ∃ S2 : cp_S, S2 = (S1.1, va_up S1.2 71 (upd (S1.2 71) t (nI r))) := ⟨_, rfl⟩
    have s21 : S2.1 = S1.1 := by rw [hS2]
    have s22 : ∀ p, p ≠ 71 → S2.2 p = S1.2 p := fun p hp => by rw [hS2]; exact cp_up_ne hp
    have s271 : ∀ x, S2.2 71 x = if x = t then nI r else S1.2 71 x := fun x => by
      rw [hS2]
      show va_up S1.2 71 (upd (S1.2 71) t (nI r)) 71 x = _
      rw [va_up_at]
      by_cases hx : x = t
      · rw [if_pos hx, hx, pk_us]
      · rw [if_neg hx, pk_un hx]
    have T1 : TPO ar rf pl 1 mt mt K S ρ nv nc [] 0 0 L0 K S2 ρ1 nv1 nc1 [] 0 0 L0 := by
      obtain ⟨⟨b1, b2, b3⟩, ⟨b4, b5⟩, b67⟩ := r6
      exact TPO.ev hs hd4 st0.1.2.1 h42 ⟨⟨b1.ga b2 (fun p p1 p2 => s22 p (by omega)), b2, b3⟩, ⟨by rw [s21]; exact b4, by rw [s21]; exact b5⟩, b67⟩ r5 KX.refl rfl hB (fun _ _ _ _ => rfl) (Nat.le_refl _) (fun _ _ => rfl) (fun k hk => by rw [s21]; exact y9 k (fun q => hk (by rw [q]; decide)) (fun q => hk (by rw [q]; decide))) (fun p hp => by rw [s22 p (by omega)]; exact y10 p (by omega)) (fun x _ => by rw [s22 63 (by decide), y10 63 (by omega)]) (fun p p1 p2 x _ => by rw [s22 p (by omega), y10 p (by omega)]) (fun p p1 p2 r hr => by rw [s22 p (by omega)]; exact y11 p p1 p2 r hr) (fun t ht => by rw [s22 56 (by decide)]; exact y12 t ht)
    have bk := T1.2.2.2.2.2.1.bk
    have nkK : NK K K := ⟨fun _ _ _ => rfl, rfl, fun _ _ h => h⟩
    have ca2 : CAR K S2 ρ1 0 (t + 1) := fun x hx => by
      rw [s271]
      by_cases hxt : x = t
      · subst hxt
        rw [if_pos rfl]
        exact ⟨v, r, by rw [Nat.zero_add]; exact v2, v1, rfl, r4⟩
      · rw [if_neg hxt, y10 71 (by omega)]
        obtain ⟨v', r', z1, z2, z3, z4⟩ := ca x (by omega)
        exact ⟨v', r', z1, z2, z3, r5 _ _ z4⟩
    obtain ⟨S', ρ', nv', nc', w1, w2, w3, ⟨w4, w5, w6, w7⟩⟩ := vargs (x1 := x1) (x2 := x2) (x3 := x3) (x4 := x4) hj hmt K rem (K.2.2.1 q 6) (t + 1) i' S2 ρ1 nv1 nc1 (st.mv T1 (by omega) rfl (Nat.le_refl _)) (by omega) (CHN_nk nkK (TR.nk nkK (bk 39 (by omega)) (bk 40 (by omega)) (bk 41 (by omega)) k) _ _ _ _ ch) ct ((show VAL S ar L0 i' j from fun x a b => va x (by omega) b).mv bk (T1.2.2.2.2.2.1.2.1 64 (by omega)) (fun _ _ _ _ w => w)) ca2 (by omega) (by omega) (by omega)
    refine ⟨S', ρ', nv', nc', fun o Sx w => b_M_run_171 ⟨fun h => absurd h (nI_ge (by omega) (by omega)), fun _ => ⟨fun h => absurd h (by decide), fun _ => ⟨nI r, S1, r3, vp_in_nI (show t < 6 by omega) (by decide), nI i', S2, ?_, by rw [nI_1]; exact w1 o Sx w⟩⟩⟩, T1.trans w2 (Nat.le_refl _) (Nat.le_refl _) (fun _ => ⟨y5, y7⟩), w3, ⟨by omega, by omega, by omega, by omega⟩⟩
    rw [nI_clamp (show t < 2 ^ 31 by omega), ← hS2]
    exact MC_behind (TR.sh _ _ _ _ (TR.nk nkK (bk 39 (by omega)) (bk 40 (by omega)) (bk 41 (by omega)) _ _ _ _ ht)) (by omega)
end CPAR
