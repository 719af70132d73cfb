/-! ===== types: an argument is taken: settling ===== -/
theorem LU.pushn {K : cp_K} {n frame c v : Nat} {a1 a2 a3 : Int32} (h : LU K frame c v) (hb : BS K n) (hc : ¬ a1 = nI (97 + c)) : LU (bpush K a1 a2 a3) frame c v := by
  obtain ⟨i, ⟨h1, h2, h3, h4⟩, h5⟩ := h
  have e15 := hb.1
  have e17 := hb.2.1
  refine ⟨i, ⟨h1, by rw [bpush_sz15]; omega, ?_, fun j j1 j2 => ?_⟩, ?_⟩
  · rw [bpush_at15, cp_up_ne (by omega)]; exact h3
  · rw [bpush_sz15] at j2
    rw [bpush_at15]
    by_cases hj : j = rsz K 15
    · rw [hj, va_up_at]; exact hc
    · rw [cp_up_ne hj]; exact h4 j j1 (by omega)
  · rw [bpush_at17, cp_up_ne (by omega)]; exact h5
theorem LU.top {K : cp_K} {n frame c v : Nat} {a3 : Int32} (hb : BS K n) (hf : frame ≤ n) : LU (bpush K (nI (97 + c)) (nI v) a3) frame c v := by
  have e15 := hb.1
  have e17 := hb.2.1
  refine ⟨n, ⟨hf, by rw [bpush_sz15]; omega, by rw [bpush_at15, e15, va_up_at], fun j j1 j2 => ?_⟩, by rw [bpush_at17, e17, va_up_at]⟩
  rw [bpush_sz15] at j2
  omega
section CPSE
variable {ar : Nat → Nat} {rf : Nat} {pl : Nat → Nat → Prop} {lev n nE : Nat} {K : cp_K} {S : cp_S} {ρ : Nat → Nat → Prop} {nv nc : Nat} {hl : List Nat} {C F : Nat} {L : Nat → Nat → Nat → Nat → Prop} {sc : Nat → Prop}
theorem settle_m {k kh p4 q frame c i0 sp t a a' d v : Nat} {nm : Option Nat} (st : TST ar rf pl nE n K S ρ nv nc hl C F L) (lv : LVL S lev c i0 sp t a) (hp : PRM K S.2 ar k sc q (sp + t) d nm) (ht : TR K S.2 pl kh p4 a a') (ct : CTX K hl nE L kh p4 v) (hv : v < 2 ^ 31) (va : VAL S ar L a a') (fr : FRM K frame S lev sc ρ) (hfr : frame ≤ n) (ha' : a' < 2720) (hsp : sp + t + 1 < 180) (haa : a' - a ≤ 110) (hnv : nv + (a' - a) < 6000) (hnc : nc + (a' - a) < 6000) :
    ∃ (S' : cp_S) (ρ' : Nat → Nat → Prop) (nv' nc' : Nat), MC 3 m_M_settle [.int (nI lev)] S none S' ∧ TPO ar rf pl lev n (n + 1) K S ρ nv nc hl C F L (bpush K (K.2.1 q 1) (nI v) (-1)) S' ρ' nv' nc' hl C F L ∧ FRM (bpush K (K.2.1 q 1) (nI v) (-1)) frame S' lev (fun c => sc c ∨ nm = some c) ρ' ∧ LVL S' lev c i0 sp (t + 1) a' ∧ (nv ≤ nv' ∧ nv' ≤ nv + (a' - a) ∧ nc ≤ nc' ∧ nc' ≤ nc + (a' - a)) ∧ ∀ p, 68 ≤ p → p ≤ 70 → S'.2 p = S.2 p := by
  obtain ⟨⟨st0, h42, hs, hd4⟩, hF, nmS, -, ⟨p20, plf, pli⟩, hB, hnE, -, -⟩ := id st
  have kb : KF [15, 17, 19] K (bpush K (K.2.1 q 1) (nI v) (-1)) := KF.bpush
  have e7 := kb.2.2.1 7 (by decide)
  have lt1 := SH_lt _ _ _ (TR.sh _ _ _ _ ht)
  have hrow : ∀ q', q' = 15 ∨ q' = 17 ∨ q' = 19 → ∀ x, x < n → rat (bpush K (K.2.1 q 1) (nI v) (-1)) q' x = rat K q' x := fun q' hq x hx => by
    rcases hq with rfl | rfl | rfl
    · rw [bpush_at15, cp_up_ne (by rw [hB.1]; omega)]
    · rw [bpush_at17, cp_up_ne (by rw [hB.2.1]; omega)]
    · rw [bpush_at19, cp_up_ne (by rw [hB.2.2]; omega)]
  obtain ⟨h0, h1, h2, h3, h6⟩ := hp
  have lv0 := lv
  obtain ⟨l1, l2, l3, l4, l5, l6, l7, l8, l9, l10, l11⟩ := lv0
  rcases h6 with ⟨x, rfl, hx, h44, hq1, h45⟩ | ⟨rfl, h44, hq1⟩
  · -- a named parameter
    obtain ⟨r, S1, ρ1, nv1, nc1, r1, r2, r3, r4, r5, r6, -⟩ := evt st0 nmS hs pli ht ct va (by omega) haa hnv hnc
    obtain ⟨y1, y2, y3, y4, y5, y6, y7, y8, y9, y10, y11, y12, y13⟩ := id r1
    obtain ⟨S', s1, s2, s3⟩ := MC_settle_n lv h44 h45 hx r3 (fun p hp => y10 p (by omega)) (fun p hp => y10 p (by omega)) (MC_behind (k := kh) (i := a) (j := a') (TR.sh _ _ _ _ (TR.nk (K' := K) (b' := va_up S1.2 63 (upd (S1.2 63) (26 * lev + x) (nI r))) ⟨fun _ _ _ => rfl, rfl, fun _ _ h => h⟩ (by rw [cp_up_ne (by decide), y10 39 (by omega)]) (by rw [cp_up_ne (by decide), y10 40 (by omega)]) (by rw [cp_up_ne (by decide), y10 41 (by omega)]) _ _ _ _ ht)) (by omega))
    obtain ⟨u1, u2, u3, u4⟩ := s1
    have sO : ∀ p, p ≠ 63 → p ≠ 66 → p ≠ 67 → (p < 52 ∨ 57 < p) → S'.2 p = S.2 p := fun p p1 p2 p3 p4 => (u2 p p1 p2 p3).trans (y10 p p4)
    refine ⟨S', ρ1, nv1, nc1, s3, ?_, ?_, ?_, ⟨y5, y6, y7, by omega⟩, fun p p1 p2 => sO p (by omega) (by omega) (by omega) (by omega)⟩
    · obtain ⟨⟨b1, b2, b3⟩, ⟨b4, b5⟩, b6, b7⟩ := r6
      refine TPO.ev hs hd4 st0.1.2.1 h42 ⟨⟨?_, by rw [e7.1]; exact b2, by rw [e7.2]; exact b3⟩, ⟨by rw [u1]; exact b4, by rw [u1]; exact b5⟩, by rw [(kb.2.2.1 9 (by decide)).1]; exact b6, by rw [(kb.2.2.1 11 (by decide)).1]; exact b7⟩ r5 (KX.of kb (by decide)) (by rw [kb.1]) hB.push hrow (by rw [e7.1]; exact Nat.le_refl _) (fun x _ => by rw [e7.2]) (fun k hk => by rw [u1]; exact y9 k (fun q => hk (by rw [q]; decide)) (fun q => hk (by rw [q]; decide))) (fun p hp => sO p (by omega) (by omega) (by omega) (by omega)) (fun y hy => by rw [s2, if_neg (by omega)]) (fun p p1 p2 y hy => ?_) (fun p p1 p2 r hr => (congrFun (u2 p (by omega) (by omega) (by omega)) r).trans (y11 p p1 p2 r hr)) (fun t ht => (congrFun (u2 56 (by decide) (by decide) (by decide)) t).trans (y12 t ht))
      · rw [e7.1, e7.2]
        exact b1.ga b2 (fun p p1 p2 => u2 p (by omega) (by omega) (by omega))
      · by_cases p66 : p = 66
        · subst p66; rw [u3, if_neg (by omega), y10 66 (by omega)]
        · by_cases p67 : p = 67
          · subst p67; rw [u4, if_neg (by omega), y10 67 (by omega)]
          · rw [sO p (by omega) p66 p67 (by omega)]
    · intro c' hc' hsc
      by_cases hcx : c' = x
      · subst hcx
        refine ⟨v, r, hv, r2, by rw [hq1]; exact LU.top hB hfr, by rw [s2, if_pos rfl], r4⟩
      · have hsc' : sc c' := by
          rcases hsc with w | w
          · exact w
          · injection w with w; exact absurd w.symm hcx
        obtain ⟨v', r', a1, a2, a3, a4, a5⟩ := fr c' hc' hsc'
        exact ⟨v', r', a1, a2, a3.pushn hB (by rw [hq1]; exact fun e => hcx (by have := (nI_eq (by omega) (by omega)).mp e; omega)), by rw [s2, if_neg (by omega)]; exact a4, r5 _ _ a5⟩
    · refine ⟨by rw [sO 65 (by decide) (by decide) (by decide) (by omega)]; exact l1, l2, by rw [sO 40 (by decide) (by decide) (by decide) (by omega)]; exact l3, l4, by rw [sO 33 (by decide) (by decide) (by decide) (by omega)]; exact l5, by rw [u3, if_pos rfl], by rw [u4, if_pos rfl], by omega, ha', l10, l11⟩
  · -- no name
    obtain ⟨S', ⟨u1, u2, u3, u4⟩, s2, s3⟩ := MC_settle_u (a' := a') lv (by rw [h44]; decide) (MC_behind (TR.sh _ _ _ _ ht) (by omega))
    have sO : ∀ p, p ≠ 66 → p ≠ 67 → S'.2 p = S.2 p := fun p p2 p3 => by
      by_cases p63 : p = 63
      · rw [p63]; exact s2
      · exact u2 p p63 p2 p3
    refine ⟨S', ρ, nv, nc, s3, ?_, ?_, ?_, ⟨Nat.le_refl _, by omega, Nat.le_refl _, by omega⟩, fun p p1 p2 => sO p (by omega) (by omega)⟩
    · obtain ⟨⟨b1, b2, b3⟩, ⟨b4, b5⟩, b6, b7⟩ := st0
      refine TPO.ev hs hd4 b2 h42 ⟨⟨?_, by rw [e7.1]; exact b2, by rw [e7.2]; exact b3⟩, ⟨by rw [u1]; exact b4, by rw [u1]; exact b5⟩, by rw [(kb.2.2.1 9 (by decide)).1]; exact b6, by rw [(kb.2.2.1 11 (by decide)).1]; exact b7⟩ (fun _ _ w => w) (KX.of kb (by decide)) (by rw [kb.1]) hB.push hrow (by rw [e7.1]; exact Nat.le_refl _) (fun x _ => by rw [e7.2]) (fun k hk => by rw [u1]) (fun p hp => sO p (by omega) (by omega)) (fun y hy => by rw [s2]) (fun p p1 p2 y hy => ?_) (fun p p1 p2 r hr => by rw [sO p (by omega) (by omega)]) (fun t ht => by rw [sO 56 (by decide) (by decide)])
      · rw [e7.1, e7.2]
        exact b1.ga b2 (fun p p1 p2 => sO p (by omega) (by omega))
      · by_cases p66 : p = 66
        · subst p66; rw [u3, if_neg (by omega)]
        · by_cases p67 : p = 67
          · subst p67; rw [u4, if_neg (by omega)]
          · rw [sO p p66 p67]
    · intro c' hc' hsc
      have hsc' : sc c' := by
        rcases hsc with w | w
        · exact w
        · cases w
      obtain ⟨v', r', a1, a2, a3, a4, a5⟩ := fr c' hc' hsc'
      exact ⟨v', r', a1, a2, a3.pushn hB (by rw [hq1]; exact fun e => absurd e.symm (nI_ne0 (by omega) (by omega))), by rw [s2]; exact a4, a5⟩
    · refine ⟨by rw [sO 65 (by decide) (by decide)]; exact l1, l2, by rw [sO 40 (by decide) (by decide)]; exact l3, l4, by rw [sO 33 (by decide) (by decide)]; exact l5, by rw [u3, if_pos rfl], by rw [u4, if_pos rfl], by omega, ha', l10, l11⟩
end CPSE
