/-! ===== types: the terms of a condition ===== -/
def CHZ (R : Nat → Nat → Nat → Prop) (K : cp_K) : Nat → Nat → Nat → Nat → Nat → Prop
  | 0, q, z, i, j => q = z ∧ nd K q 9 ∧ R q i j
  | m + 1, q, z, i, j => nd K q 9 ∧ q ≠ z ∧ ∃ i', R q i i' ∧ CHZ R K m (K.2.2.1 q 6) z i' j
theorem CHZ.mv {R R' : Nat → Nat → Nat → Prop} {K K' : cp_K} (hK : NK K K') (hR : ∀ q i j, R q i j → R' q i j) : ∀ (m q z i j : Nat), CHZ R K m q z i j → CHZ R' K' m q z i j
  | 0, q, z, i, j, h => ⟨h.1, hK.2.2 _ _ h.2.1, hR _ _ _ h.2.2⟩
  | m + 1, q, z, i, j, h => by
    obtain ⟨h1, h2, i', h3, h4⟩ := h
    refine ⟨hK.2.2 _ _ h1, h2, i', hR _ _ _ h3, ?_⟩
    rw [hK.2.1]
    exact CHZ.mv hK hR m _ z i' j h4
theorem CHZ.le {R : Nat → Nat → Nat → Prop} {K : cp_K} (hR : ∀ q i j, R q i j → i < j) : ∀ (m q z i j : Nat), CHZ R K m q z i j → i + m < j
  | 0, q, z, i, j, h => hR _ _ _ h.2.2
  | m + 1, q, z, i, j, h => by
    obtain ⟨h1, h2, i', h3, h4⟩ := h
    have := hR _ _ _ h3
    have := CHZ.le hR m _ z i' j h4
    omega
theorem DTM.lt {K : cp_K} {b : Nat → Nat → Int32} {ar : Nat → Nat} {k q i j : Nat} {sc : Nat → Prop} (h : DTM K b ar k sc q i j) : i < j := SH_lt _ _ _ (TR.sh _ _ _ _ h.1)
theorem FRM.mv {K K' : cp_K} {frame : Nat} {S S' : cp_S} {lev : Nat} {sc : Nat → Prop} {ρ ρ' : Nat → Nat → Prop} (h : FRM K frame S lev sc ρ) (hL : ∀ c v, c < 26 → LU K frame c v → LU K' frame c v) (h63 : ∀ c, c < 26 → S'.2 63 (26 * lev + c) = S.2 63 (26 * lev + c)) (hρ : ∀ x y, ρ x y → ρ' x y) : FRM K' frame S' lev sc ρ' := fun c hc hs => by
  obtain ⟨v, r, a1, a2, a3, a4, a5⟩ := h c hc hs
  exact ⟨v, r, a1, a2, hL c v hc a3, by rw [h63 c hc]; exact a4, hρ v r a5⟩
section CPCD
variable {ar : Nat → Nat} {rf : Nat} {pl : Nat → Nat → Prop} {lev lv n : Nat} {hl : List Nat} {C F : Nat} {L : Nat → Nat → Nat → Nat → Prop} {frame k : Nat} {sc : Nat → Prop}
def CAR (K : cp_K) (S : cp_S) (ρ : Nat → Nat → Prop) (n t : Nat) : Prop := ∀ x, x < t → ∃ v r, rat K 17 (n + x) = nI v ∧ v < 2 ^ 31 ∧ S.2 71 x = nI r ∧ ρ v r
theorem cd_terms {D m pq z j pt : Nat} {x4 x5 x6 : Int32} (hk : k ≤ 40) (hD : k + 1 ≤ D) (hm : m ≤ 4) (hlev : lev ≤ 9) (hj : j ≤ 2720) (hn : n < 14000) (hpt : pt < 180) : ∀ (rem t q i : Nat) (K : cp_K) (S : cp_S) (ρ : Nat → Nat → Prop) (nv nc : Nat), t + rem = m → CHZ (DTM K S.2 ar k sc) K rem q z i j → nd K pq 9 → K.2.2.1 pq 5 = z → S.2 47 pt = nI m → TVS ar hl C K S ρ nv nc → HLS S rf pl L ρ → HD4 (rat K 7) hl → S.1 42 = nI F → BS K (n + t) → FRM K frame S lev sc ρ → CAR K S ρ n t → j - i ≤ 110 → rsz K 7 + 9 * (j - i) < 1046000 → nv + (j - i) < 6000 → nc + (j - i) < 6000 →
    ∃ (K1 : cp_K) (S1 : cp_S) (ρ1 : Nat → Nat → Prop) (nv1 nc1 iL : Nat), (∀ o Kx, JC (D + 8) m_T_bindTerms o Kx 14 (fun G => [(0, .ref (cp_b G + 24)), (1, va_rf (kr G pq)), (2, .int (nI frame)), (3, .int (nI n)), (4, va_rf (kr G z))]) (fun _ => []) K1 → JC (D + 8) m_T_bindTerms o Kx 14 (fun G => [(0, .ref (cp_b G + 24)), (1, va_rf (kr G pq)), (2, .int (nI frame)), (3, .int (nI n)), (4, va_rf (kr G q))]) (fun _ => []) K) ∧ (∀ o Sx, JJ 5 m_M_condition o Sx 28 [(1, .int (nI pt)), (2, .int (nI lev)), (3, .int (nI iL)), (4, .int x4), (5, .int x5), (6, .int x6), (7, .int (nI m))] S1 → JJ 5 m_M_condition o Sx 28 [(1, .int (nI pt)), (2, .int (nI lev)), (3, .int (nI i)), (4, .int x4), (5, .int x5), (6, .int x6), (7, .int (nI t))] S) ∧ DTM K1 S1.2 ar k sc z iL j ∧ TPO ar rf pl lv (n + t) (n + m) K S ρ nv nc hl C F L K1 S1 ρ1 nv1 nc1 hl C F L ∧ CAR K1 S1 ρ1 n m ∧ (i ≤ iL ∧ nv ≤ nv1 ∧ nv1 ≤ nv + (iL - i) ∧ nc ≤ nc1 ∧ nc1 ≤ nc + (iL - i) ∧ rsz K1 7 ≤ rsz K 7 + 9 * (iL - i)) ∧ S1.2 63 = S.2 63 ∧ ∀ p, 65 ≤ p → p ≤ 70 → S1.2 p = S.2 p
  | 0, t, q, i, K, S, ρ, nv, nc, ht, hc, npq, hz, h47, st, hs, hd4, h42, hB, fr, ca, hij, h7, hnv, hnc => by
    obtain ⟨rfl, h1, h2⟩ := hc
    have : t = m := by omega
    subst this
    refine ⟨K, S, ρ, nv, nc, i, fun _ _ w => w, fun _ _ w => w, h2, TPO.ev hs hd4 st.1.2.1 h42 st (fun _ _ q => q) KX.refl rfl hB (fun _ _ _ _ => rfl) (Nat.le_refl _) (fun _ _ => rfl) (fun _ _ => rfl) (fun _ _ => rfl) (fun _ _ => rfl) (fun _ _ _ _ _ => rfl) (fun _ _ _ _ _ => rfl) (fun _ _ => rfl), ca, ⟨Nat.le_refl _, Nat.le_refl _, by omega, Nat.le_refl _, by omega, by omega⟩, rfl, fun _ _ _ => rfl⟩
  | rem + 1, t, q, i, K, S, ρ, nv, nc, ht, hc, npq, hz, h47, st, hs, hd4, h42, hB, fr, ca, hij, h7, hnv, hnc => by
    obtain ⟨h1, h2, i', h3, h4⟩ := hc
    have lt1 := h3.lt
    have lt2 := CHZ.le (fun q i j h => DTM.lt h) _ _ _ _ _ h4
    obtain ⟨v, r, K1, S1, ρ1, nv1, nc1, a1, a2, a3, a4, a5, a6, a7, a8, a9⟩ := evd st hB (by omega) fr h3 hk hlev (by omega) (by omega) (by omega) (by omega) (by omega)
    obtain ⟨y1, y2, y3, y4, y5, y6, y7, y8, y9, y10, y11, y12, y13⟩ := id a4
    obtain ⟨c1, c2, c3, c4, c5, c6⟩ := id a1
    have kb : KF [15, 17, 19] K1 (bpush K1 0 (nI v) (-1)) := KF.bpush
    have kall : KX K (bpush K1 0 (nI v) (-1)) := (KX.of c1 (by decide)).trans (KX.of kb (by decide))
    have e7 := kb.2.2.1 7 (by decide)
    obtain ⟨S2, hS2⟩ : ∃ S2 : cp_S, S2 = (S1.1, va_up S1.2 71 (upd (S1.2 71) t (nI r))) := ⟨_, rfl⟩
    have s21 : S2.1 = S1.1 := by rw [hS2]
    have s22 : ∀ p, p ≠ 71 → S2.2 p = S1.2 p := fun p hp => by rw [hS2]; exact cp_up_ne hp
    have s271 : ∀ x, S2.2 71 x = if x = t then nI r else S1.2 71 x := fun x => by
      rw [hS2]
      show va_up S1.2 71 (upd (S1.2 71) t (nI r)) 71 x = _
      rw [va_up_at]
      by_cases hx : x = t
      · rw [if_pos hx, hx, pk_us]
      · rw [if_neg hx, pk_un hx]
    have st2 : TVS ar hl C (bpush K1 0 (nI v) (-1)) S2 ρ1 nv1 nc1 := by
      obtain ⟨⟨b1, b2, b3⟩, ⟨b4, b5⟩, b6, b7⟩ := a9
      refine ⟨⟨?_, by rw [e7.1]; exact b2, by rw [e7.2]; exact b3⟩, ⟨by rw [s21]; exact b4, by rw [s21]; exact b5⟩, by rw [(kb.2.2.1 9 (by decide)).1]; exact b6, by rw [(kb.2.2.1 11 (by decide)).1]; exact b7⟩
      rw [e7.1, e7.2]
      exact b1.ga b2 (fun p p1 p2 => s22 p (by omega))
    have hB2 : BS (bpush K1 0 (nI v) (-1)) (n + (t + 1)) := c2.push
    have T1 : TPO ar rf pl lv (n + t) (n + (t + 1)) K S ρ nv nc hl C F L (bpush K1 0 (nI v) (-1)) S2 ρ1 nv1 nc1 hl C F L := by
      refine TPO.ev hs hd4 st.1.2.1 h42 st2 a8 kall (by rw [kb.1, c1.1]) hB2 (fun q hq x hx => ?_) (by rw [e7.1]; exact c4) (fun x hx => by rw [e7.2]; exact c6 x hx) (fun k hk => ?_) (fun p hp => ?_) (fun x _ => ?_) (fun p p1 p2 x _ => ?_) (fun p p1 p2 r hr => ?_) (fun t ht => ?_)
      · rcases hq with rfl | rfl | rfl
        · rw [bpush_at15, cp_up_ne (by rw [c2.1]; omega), c3 15 (by decide) x hx]
        · rw [bpush_at17, cp_up_ne (by rw [c2.2.1]; omega), c3 17 (by decide) x hx]
        · rw [bpush_at19, cp_up_ne (by rw [c2.2.2]; omega), c3 19 (by decide) x hx]
      · rw [s21]; exact y9 k (fun q => hk (by rw [q]; decide)) (fun q => hk (by rw [q]; decide))
      · rw [s22 p (by omega)]; exact y10 p (by omega)
      · rw [s22 63 (by decide), y10 63 (by omega)]
      · rw [s22 p (by omega), y10 p (by omega)]
      · rw [s22 p (by omega)]; exact y11 p p1 p2 r hr
      · rw [s22 56 (by decide)]; exact y12 t ht
    have fr2 : FRM (bpush K1 0 (nI v) (-1)) frame S2 lev sc ρ1 := fr.mv (fun c v hc q => (a1.lu hB q).push c2 hc) (fun c _ => by rw [s22 63 (by decide), y10 63 (by omega)]) a8
    have ca2 : CAR (bpush K1 0 (nI v) (-1)) S2 ρ1 n (t + 1) := fun x hx => by
      rw [bpush_at17, c2.2.1, s271]
      by_cases hxt : x = t
      · subst hxt
        rw [va_up_at, if_pos rfl]
        exact ⟨v, r, rfl, a2, rfl, a7⟩
      · rw [cp_up_ne (by omega), c3 17 (by decide) _ (by omega), if_neg hxt, y10 71 (by omega)]
        obtain ⟨v', r', z1, z2, z3, z4⟩ := ca x (by omega)
        exact ⟨v', r', z1, z2, z3, a8 _ _ z4⟩
    have bk2 : BK S.2 S2.2 := fun p hp => by rw [s22 p (by omega)]; exact y10 p (by omega)
    have z2 : (bpush K1 0 (nI v) (-1)).2.2.1 = K.2.2.1 := kall.nk.2.1
    obtain ⟨K3, S3, ρ3, nv3, nc3, iL, d1, d2, d3, d4, d5, ⟨d6, d7, d8, d9, d10, d11⟩, d12, d13⟩ := cd_terms (pq := pq) (x4 := x4) (x5 := x5) (x6 := x6) hk hD hm hlev hj hn hpt rem (t + 1) (K.2.2.1 q 6) i' (bpush K1 0 (nI v) (-1)) S2 ρ1 nv1 nc1 (by omega) (CHZ.mv kall.nk (fun q i j h => h.mv kall.nk bk2) _ _ _ _ _ h4) (kall.nd npq) (by rw [z2]; exact hz) (by rw [bk2 47 (by omega)]; exact h47) st2 T1.1.2.2.1 T1.1.2.2.2 T1.1.2.1 hB2 fr2 ca2 (by omega) (by rw [e7.1]; omega) (by omega) (by omega)
    refine ⟨K3, S3, ρ3, nv3, nc3, iL, fun o Kx w => b_T_bindTerms_14 ⟨fun hn => absurd hn (by have := h1.1; omega), fun _ => ⟨npq, fun hn => absurd (hn.trans hz) h2, fun _ => ⟨nI v, K1, a3.mono (by omega), ⟨by rw [c2.1]; show n + t < 16384; omega, by rw [c2.2.1]; show n + t < 16384; omega, by rw [c2.2.2]; show n + t < 16384; omega⟩, (KX.of c1 (by decide)).nd h1, ?_⟩⟩⟩, fun o Sx w => b_M_condition_28 ?_, d3, T1.trans d4 (Nat.le_refl _) (by omega) (fun _ => ⟨y5, y7⟩), d5, ⟨by omega, by omega, by omega, by omega, by omega, by rw [e7.1] at d11; omega⟩, ?_, fun p p1 p2 => ?_⟩
    · rw [z2]; exact d1 o Kx w
    · unfold wp_M_condition_28
      rw [nI_clamp (show pt < 2 ^ 31 by omega), nI_clamp (show t < 2 ^ 31 by omega), h47, nI_1]
      refine ⟨vp_in_nI (show pt < 180 by omega) (by decide), fun hn => absurd hn (nI_ge (by omega) (by omega)), fun _ => ⟨nI r, S1, a6, vp_in_nI (show t < 6 by omega) (by decide), nI i', S2, ?_, d2 o Sx w⟩⟩
      rw [← hS2]
      exact MC_behind (TR.sh _ _ _ _ ((h3.mv kall.nk bk2).1)) (by omega)
    · rw [d12, s22 63 (by decide), y10 63 (by omega)]
    · rw [d13 p p1 p2, s22 p (by omega), y10 p (by omega)]
end CPCD
