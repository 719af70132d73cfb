/-! ===== types: an argument suits ===== -/
section CPSU
variable {ar : Nat → Nat} {rf : Nat} {pl : Nat → Nat → Prop} {lev lev' n n' n2 nE : Nat} {K K1 : cp_K} {S S1 : cp_S} {ρ ρ1 : Nat → Nat → Prop} {nv nc nv1 nc1 : Nat} {hl hl1 : List Nat} {C C1 F F1 : Nat} {L L1 : Nat → Nat → Nat → Nat → Prop} {sc : Nat → Prop}
theorem TPO.wk (h : TPO ar rf pl lev n n' K S ρ nv nc hl C F L K1 S1 ρ1 nv1 nc1 hl1 C1 F1 L1) (hlv : lev' ≤ lev) (hn : n2 ≤ n) : TPO ar rf pl lev' n2 n' K S ρ nv nc hl C F L K1 S1 ρ1 nv1 nc1 hl1 C1 F1 L1 := by
  obtain ⟨h1, h2, h3, h4, h5, h6, h7, h8⟩ := h
  exact ⟨h1, h2, h3, h4, h5, h6.le hlv, h7, fun q hq x hx => h8 q hq x (by omega)⟩
theorem LVL.mv {c i0 sp t a : Nat} (h : LVL S lev c i0 sp t a) (g : SX (lev + 1) S S1) : LVL S1 lev c i0 sp t a := by
  obtain ⟨l1, l2, l3, l4, l5, l6, l7, l8, l9, l10, l11⟩ := h
  exact ⟨by rw [g.2.2.2 65 (by omega) (by omega) lev (by omega)]; exact l1, l2, by rw [g.bk 40 (by omega)]; exact l3, l4, by rw [g.bk 33 (by omega)]; exact l5, by rw [g.2.2.2 66 (by omega) (by omega) lev (by omega)]; exact l6, by rw [g.2.2.2 67 (by omega) (by omega) lev (by omega)]; exact l7, l8, l9, l10, l11⟩
theorem suit_m {D kd kh q p4 frame c i0 sp t a a' d x v : Nat} {nm : Option Nat} {ts x3 : Int32} (st : TST ar rf pl nE n K S ρ nv nc hl C F L) (g1 : TPO ar rf pl (lev + 1) n n K S ρ nv nc hl C F L K1 S1 ρ1 nv1 nc1 hl1 C1 F1 L1) (hF1 : F1 = hl1.length + C1) (lv : LVL S lev c i0 sp t a) (hp : PRM K S.2 ar kd sc q (sp + t) d nm) (ht : TR K S.2 pl kh p4 a a') (fr : FRM K frame S lev sc ρ) (hfr : frame ≤ n) (hn : n ≤ 9000)
    (kty : KC (D + 7) m_T_typeOf (fun G => [.ref (cp_b G + 24), va_rf (kr G p4)]) K (fun _ => some (.int (nI x))) K1) (n4 : ¬ K.2.1 p4 0 = 4) (n0 : nd K p4 9) (hpl : pl p4 a) (ty : TYR K1 ρ1 x ts) (hx : x < rsz K1 7) (hv7 : K1.2.1 24 7 = nI v) (hv : v < 2 ^ 31) (ct : CTX K1 hl1 nE L1 kh p4 v) (va : VAL S1 ar L1 a a') (hx3 : x3 = 0 ∨ (x3 = 1 ∧ lev ≤ 8 ∧ S1.2 68 (lev + 1) = nI nv ∧ S1.2 69 (lev + 1) = nI nc ∧ S1.2 70 (lev + 1) = nI F))
    (hk : kd ≤ 40) (hD : 50 ≤ D) (hd : d ≤ 110) (h7 : rsz K1 7 < 1040000) (hvv : nv ≤ nv1 ∧ nc ≤ nc1) (hnv : nv1 + d + (a' - a) < 6000) (hnc : nc1 + d + (a' - a) < 6000) (ha' : a' < 2720) (hsp : sp + t + 1 < 180) (haa : a' - a ≤ 110) :
    ∃ (ok : Bool) (K' : cp_K) (S' : cp_S) (ρ' : Nat → Nat → Prop) (nv' nc' : Nat) (hl' : List Nat) (C' F' : Nat) (L' : Nat → Nat → Nat → Nat → Prop), KC (D + 8) m_T_takeArgument (fun G => [.ref (cp_b G + 24), va_rf (kr G q), va_rf (kr G p4), .int (nI frame)]) K (fun _ => some (.int (if ok then 1 else 0))) K' ∧ MC 4 m_M_suits [.int ts, .int (nI lev), .int x3] S1 (some (.int (if ok then 1 else 0))) S' ∧ (ok = false → BDQ K S K' S') ∧
      (ok = true → TPO ar rf pl lev n (n + 1) K S ρ nv nc hl C F L K' S' ρ' nv' nc' hl' C' F' L' ∧ FRM K' frame S' lev (fun c => sc c ∨ nm = some c) ρ' ∧ LVL S' lev c i0 sp (t + 1) a' ∧ CTX K' hl' nE L' kh p4 v ∧ VAL S' ar L' a a' ∧ rat K' 17 n = nI v ∧ (F' = hl'.length + C' ∧ hl' = hl1 ∧ L' = L1 ∧ C1 ≤ C' ∧ rsz K' 7 ≤ rsz K1 7 + 9 * d) ∧ ((nv' ≤ nv + (a' - a) ∧ nc' ≤ nc + (a' - a) ∧ F' = F) ∨ (nv' ≤ nv1 + d + (a' - a) ∧ nc' ≤ nc1 + d + (a' - a) ∧ (x3 = 1 → ¬ F' = F))) ∧ (nv ≤ nv' ∧ nc ≤ nc') ∧ ∀ p, 68 ≤ p → p ≤ 70 → S'.2 p lev = S.2 p lev) := by
  obtain ⟨⟨st0, h42, hs, hd4⟩, hF, nmS, ⟨hDi, hDc⟩, plf, hB, hnE, h245, h244⟩ := id st
  have nk1 := g1.2.2.2.2.1.nk
  have sx1 := g1.2.2.2.2.2.1
  have bk1 := sx1.bk
  have lv1 := lv.mv sx1
  have lev9 : lev ≤ 9 := lv.2.2.2.2.2.2.2.2.2.2
  have lev1 : 1 ≤ lev := lv.2.2.2.2.2.2.2.2.2.1
  have lt1 := SH_lt _ _ _ (TR.sh _ _ _ _ ht)
  have hB1 := g1.2.2.2.2.2.2.1
  have fr1 : FRM K1 frame S1 lev sc ρ1 := fr.mv (fun c v _ w => LU.same hB hB1 g1.2.2.2.2.2.2.2 w) (fun c hc => sx1.2.2.1 _ (by omega)) g1.2.1.1
  have plf1 := plf.mv nk1 (sx1.1 20 (by decide)) (sx1.2.1 42 (by omega))
  obtain ⟨f1, f2, f3, f4, f5⟩ := plf1.2.1 p4 a hpl
  have x31 : x < 2 ^ 31 := by omega
  rcases ty with ⟨rfl, h3, -⟩ | ⟨tr, rfl, htr⟩
  · refine ⟨false, kI K1 24 6 (K1.2.1 p4 2), (va_up S1.1 59 (S1.2 42 (a - rf)), S1.2), ρ1, nv1, nc1, hl1, C1, F1, L1, ?_, MC_suits_star lv1 plf1.1 f1 f2 rfl, fun _ => ?_, fun h => (by cases h)⟩
    · refine c_T_takeArgument (D := D) ⟨n0, fun _ => ⟨nI x, K1, kty, fun _ => ⟨fun _ => ⟨nk1.2.2 _ _ n0, rfl, rfl⟩, fun hz => ?_⟩, fun hn => absurd hn (nI_m1 x31)⟩, fun h4 => absurd h4 n4⟩
      rw [rget_of hx (by omega), h3] at hz
      exact absurd hz (by decide)
    · rw [f5]; exact BDQ.of g1 (by omega) (by omega) (by omega) f3.2
  · obtain ⟨ib, jb, h46, hdt, hjb, hdb⟩ := (hp.mv nk1 bk1).2.2.2.1
    have ltb := hdt.lt
    obtain ⟨v2, r2, K2, S2, ρ2, nv2, nc2, a1, a2, a3, a4, a5, a6, a7, a8, a9⟩ := evd g1.1.1 hB1 (by omega) fr1 hdt hk lev9 hjb (by omega) (by omega) (by omega) (by omega)
    obtain ⟨y1, y2, y3, y4, y5, y6, y7, y8, y9, y10, y11, y12, y13⟩ := id a4
    obtain ⟨c1, c2, c3, c4, c5, c6⟩ := id a1
    have T12 : TPO ar rf pl (lev + 1) n n K1 S1 ρ1 nv1 nc1 hl1 C1 F1 L1 K2 S2 ρ2 nv2 nc2 hl1 C1 F1 L1 := TPO.ev g1.1.2.2.1 g1.1.2.2.2 g1.1.1.1.2.1 g1.1.2.1 a9 a8 (KX.of c1 (by decide)) (by rw [c1.1]) c2 (fun q hq x hx => c3 q (by omega) x hx) c4 c6 (fun k hk => y9 k (fun q => hk (by rw [q]; decide)) (fun q => hk (by rw [q]; decide))) (fun p hp => y10 p (by omega)) (fun x _ => by rw [y10 63 (by omega)]) (fun p p1 p2 x _ => by rw [y10 p (by omega)]) y11 y12
    obtain ⟨ok, K3, S3, C3, b1, b2, b3, b4, b5, b6⟩ := TPO.same (lev := lev + 1) a9 T12.1.2.2.1 T12.1.2.2.2 T12.1.2.1 c2 (a8 _ _ htr) a7
    have T13 := T12.trans b3 (Nat.le_refl _) (Nat.le_refl _) (fun _ => ⟨y5, y7⟩)
    have T03 := g1.trans T13 (Nat.le_refl _) (Nat.le_refl _) (fun _ => hvv)
    have nk3 := T03.2.2.2.2.1.nk
    have sx3 := T03.2.2.2.2.2.1
    have lv3 := lv.mv sx3
    have plf3 := plf.mv nk3 (sx3.1 20 (by decide)) (sx3.2.1 42 (by omega))
    obtain ⟨w1, w2, w3, w4, w5⟩ := plf3.2.1 p4 a hpl
    have hC13 := b3.2.2.1.2.1
    have s3hi : ∀ p, 65 ≤ p → p ≤ 71 → S3.2 p = S1.2 p := fun p p1 p2 => (b6 p p1 p2).trans (y10 p (by omega))
    have n3x : ¬ rat K1 7 x = 3 := g1.1.1.1.1.1.n3 htr
    have takeA : ∀ (o : Int32) (K' : cp_K), ((¬ ((if ok then 1 else 0) : Int32) = 0 → nd K3 q 9 ∧ (rsz K3 15 < k_lim 15 ∧ rsz K3 17 < k_lim 17 ∧ rsz K3 19 < k_lim 19) ∧ o = 1 ∧ K' = (bpush K3 (K3.2.1 q 1) (nI v) (-1))) ∧ (((if ok then 1 else 0) : Int32) = 0 → nd K3 p4 9 ∧ o = 0 ∧ K' = (kI K3 24 6 (K3.2.1 p4 2)))) → KC (D + 8) m_T_takeArgument (fun G => [.ref (cp_b G + 24), va_rf (kr G q), va_rf (kr G p4), .int (nI frame)]) K (fun _ => some (.int o)) K' := by
      intro o K' w
      refine c_T_takeArgument (D := D) ⟨n0, fun _ => ⟨nI x, K1, kty, fun _ => ⟨fun hz => ?_, fun _ => ⟨nk1.2.2 _ _ hp.1, nI v2, K2, a3.mono (by omega), _, K3, b1.mono (by omega), fun h => ?_, fun h => ?_⟩⟩, fun hn => absurd hn (nI_m1 x31)⟩, fun h4 => absurd h4 n4⟩
      · rw [rget_of hx (by omega), if_neg n3x] at hz
        exact absurd rfl hz
      · rw [hv7]
        obtain ⟨w1, w2, w3, w4⟩ := w.1 h
        rw [w3, w4]
        exact ⟨w1, w2, rfl, rfl⟩
      · obtain ⟨w1, w3, w4⟩ := w.2 h
        rw [w3, w4]
        exact ⟨w1, rfl, rfl⟩
    have tr31 : tr < 2 ^ 31 := by have := (g1.1.1.1.1.1.1 _ _ htr).2.1; have := g1.1.1.1.1.2.2.2.2.2.1; omega
    cases ok with
    | false =>
      refine ⟨false, kI K3 24 6 (K3.2.1 p4 2), (va_up S3.1 59 (S3.2 42 (a - rf)), S3.2), ρ1, nv1, nc1, hl1, C1, F1, L1, takeA 0 _ ⟨fun h => absurd rfl h, fun _ => ⟨nk3.2.2 _ _ n0, rfl, rfl⟩⟩, MC_suits (rf := rf) lv1 tr31 h46 a6 b2 (fun _ => ⟨lv3.2.2.2.2.2.2.1, plf3.1, w1, w2, rfl, rfl⟩) (fun h => (by cases h)), fun _ => ?_, fun h => (by cases h)⟩
      rw [w5]; exact BDQ.of T03 (by omega) (by omega) (by omega) w3.2
    | true =>
      have hB3 := T03.2.2.2.2.2.2.1
      have fin : ∀ (S4 : cp_S) (ρ4 : Nat → Nat → Prop) (nv4 nc4 C4 F4 : Nat), TPO ar rf pl (lev + 1) n n K S ρ nv nc hl C F L K3 S4 ρ4 nv4 nc4 hl1 C4 F4 L1 → F4 = hl1.length + C4 → C1 ≤ C4 → S4.2 = S3.2 → (nv ≤ nv4 ∧ nc ≤ nc4) → ((nv4 ≤ nv ∧ nc4 ≤ nc ∧ F4 = F) ∨ (nv4 ≤ nv1 + d ∧ nc4 ≤ nc1 + d ∧ (x3 = 1 → ¬ F4 = F))) → (∀ S', MC 3 m_M_settle [.int (nI lev)] S4 none S' → MC 4 m_M_suits [.int (nI tr), .int (nI lev), .int x3] S1 (some (.int 1)) S') → ∃ (ok : Bool) (K' : cp_K) (S' : cp_S) (ρ' : Nat → Nat → Prop) (nv' nc' : Nat) (hl' : List Nat) (C' F' : Nat) (L' : Nat → Nat → Nat → Nat → Prop), KC (D + 8) m_T_takeArgument (fun G => [.ref (cp_b G + 24), va_rf (kr G q), va_rf (kr G p4), .int (nI frame)]) K (fun _ => some (.int (if ok then 1 else 0))) K' ∧ MC 4 m_M_suits [.int (nI tr), .int (nI lev), .int x3] S1 (some (.int (if ok then 1 else 0))) S' ∧ (ok = false → BDQ K S K' S') ∧ (ok = true → TPO ar rf pl lev n (n + 1) K S ρ nv nc hl C F L K' S' ρ' nv' nc' hl' C' F' L' ∧ FRM K' frame S' lev (fun c => sc c ∨ nm = some c) ρ' ∧ LVL S' lev c i0 sp (t + 1) a' ∧ CTX K' hl' nE L' kh p4 v ∧ VAL S' ar L' a a' ∧ rat K' 17 n = nI v ∧ (F' = hl'.length + C' ∧ hl' = hl1 ∧ L' = L1 ∧ C1 ≤ C' ∧ rsz K' 7 ≤ rsz K1 7 + 9 * d) ∧ ((nv' ≤ nv + (a' - a) ∧ nc' ≤ nc + (a' - a) ∧ F' = F) ∨ (nv' ≤ nv1 + d + (a' - a) ∧ nc' ≤ nc1 + d + (a' - a) ∧ (x3 = 1 → ¬ F' = F))) ∧ (nv ≤ nv' ∧ nc ≤ nc') ∧ ∀ p, 68 ≤ p → p ≤ 70 → S'.2 p lev = S.2 p lev) := by
        intro S4 ρ4 nv4 nc4 C4 F4 T4 hF4 hC4 hS4 hlo hhi hsu
        have nk4 := T4.2.2.2.2.1.nk
        have sx4 := T4.2.2.2.2.2.1
        have st4 : TST ar rf pl nE n K3 S4 ρ4 nv4 nc4 hl1 C4 F4 L1 := st.mv T4 (by omega) hF4 (Nat.le_refl _)
        have ht1 : TR K1 S1.2 pl kh p4 a a' := TR.nk nk1 (bk1 39 (by omega)) (bk1 40 (by omega)) (bk1 41 (by omega)) _ _ _ _ ht
        have ht4 : TR K3 S4.2 pl kh p4 a a' := TR.nk nk4 (sx4.bk 39 (by omega)) (sx4.bk 40 (by omega)) (sx4.bk 41 (by omega)) _ _ _ _ ht
        have ct4 : CTX K3 hl1 nE L1 kh p4 v := ct.mv ht1 (by omega) T13
        have va4 : VAL S4 ar L1 a a' := va.mv (by rw [hS4]; exact T13.2.2.2.2.2.1.bk) (by rw [hS4]; exact T13.2.2.2.2.2.1.2.1 64 (by omega)) (fun _ _ _ _ w => w)
        have fr4 : FRM K3 frame S4 lev sc ρ4 := fr.mv (fun c v _ w => LU.same hB hB3 T03.2.2.2.2.2.2.2 w) (fun c hc => sx4.2.2.1 _ (by omega)) T4.2.1.1
        obtain ⟨S', ρ', nv', nc', m1, m2, m3, m4, ⟨m5, m6, m7, m8⟩, m9⟩ := settle_m st4 (lv.mv sx4) (hp.mv nk4 sx4.bk) ht4 ct4 hv va4 fr4 hfr ha' hsp haa (by omega) (by omega)
        have T05 := (T4.wk (Nat.le_succ lev) (Nat.le_refl n)).trans m2 (Nat.le_refl _) (Nat.le_refl _) (fun _ => hlo)
        have q3 := hB3.2.1
        refine ⟨true, bpush K3 (K3.2.1 q 1) (nI v) (-1), S', ρ', nv', nc', hl1, C4, F4, L1, takeA 1 _ ⟨fun _ => ⟨nk3.2.2 _ _ hp.1, ⟨by rw [hB3.1]; show n < 16384; omega, by rw [hB3.2.1]; show n < 16384; omega, by rw [hB3.2.2]; show n < 16384; omega⟩, rfl, rfl⟩, fun h => absurd h (by decide)⟩, hsu S' m1, fun h => (by cases h), fun _ => ⟨T05, m3, m4, ct4.mv ht4 (by omega) m2, va4.mv m2.2.2.2.2.2.1.bk (m2.2.2.2.2.2.1.2.1 64 (by omega)) (fun _ _ _ _ w => w), by rw [bpush_at17, q3, va_up_at], ⟨hF4, rfl, rfl, hC4, by rw [bpush_sz ⟨by decide, by decide, by decide⟩]; omega⟩, ?_, ⟨by omega, by omega⟩, fun p p1 p2 => by rw [m9 p p1 p2]; exact sx4.2.2.2 p (by omega) (by omega) lev (by omega)⟩⟩
        rcases hhi with w | w
        · exact Or.inl ⟨by omega, by omega, w.2.2⟩
        · exact Or.inr ⟨by omega, by omega, w.2.2⟩
      have N3 := T03.1.1.1.1.2.2.2.2.1
      have hC3 := T03.1.1.1.1.2.2.2.1
      have N31 := T03.1.1.1.1.2.2.2.2.2.2.2
      have N0 := st0.1.1.2.2.2.2.1
      have hC0 := st0.1.1.2.2.2.1
      have N01 := st0.1.1.2.2.2.2.2.2.2
      rcases hx3 with rfl | ⟨rfl, hl8, h68, h69, h70⟩
      · exact fin S3 ρ2 nv2 nc2 C3 _ T03 (by omega) hC13 rfl ⟨by omega, by omega⟩ (Or.inr ⟨by omega, by omega, fun h => absurd h (by decide)⟩) (fun S' hm => MC_suits (rf := rf) (y := 0) lv1 tr31 h46 a6 b2 (fun h => (by cases h)) (fun _ => ⟨fun _ => hm, fun h => absurd h (by decide), Or.inl rfl⟩))
      · by_cases hFF : F1 + (C3 - C1) = F
        · obtain ⟨z1, z2, z3, -⟩ := T03.2.2.1.2.2.2 hFF
          have hF1F : F1 = F := by have := g1.2.2.1.1; omega
          obtain ⟨u1, u2, u3, -⟩ := g1.2.2.1.2.2.2 hF1F
          have T4 := TPO.reset (S2 := (va_up (va_up S3.1 35 (nI nv)) 40 (nI nc), S3.2)) st0 hs T03 hFF rfl (fun k k1 k2 => by show va_up (va_up S3.1 35 (nI nv)) 40 (nI nc) k = _; rw [cp_up_ne k2, cp_up_ne k1]) (by show va_up (va_up S3.1 35 (nI nv)) 40 (nI nc) 35 = _; rw [cp_up_ne (by decide), va_up_at]) (by show va_up (va_up S3.1 35 (nI nv)) 40 (nI nc) 40 = _; rw [va_up_at])
          refine fin (va_up (va_up S3.1 35 (nI nv)) 40 (nI nc), S3.2) ρ nv nc C F (by rw [u1, u3]; exact T4) (by rw [u1]; exact hF) (by omega) rfl ⟨Nat.le_refl _, Nat.le_refl _⟩ (Or.inl ⟨Nat.le_refl _, Nat.le_refl _, rfl⟩) (fun S' hm => MC_suits (rf := rf) (y := 0) lv1 tr31 h46 a6 b2 (fun h => (by cases h)) (fun _ => ⟨fun h => absurd h (by decide), fun _ => ⟨hl8, fun h => absurd ?_ h, fun _ => ?_⟩, Or.inr rfl⟩))
          · rw [b3.1.2.1, hFF, s3hi 70 (by omega) (by omega), h70]
          · rw [s3hi 68 (by omega) (by omega), s3hi 69 (by omega) (by omega), h68, h69]; exact hm
        · refine fin S3 ρ2 nv2 nc2 C3 _ T03 (by omega) hC13 rfl ⟨by omega, by omega⟩ (Or.inr ⟨by omega, by omega, fun _ => hFF⟩) (fun S' hm => MC_suits (rf := rf) (y := 0) lv1 tr31 h46 a6 b2 (fun h => (by cases h)) (fun _ => ⟨fun h => absurd h (by decide), fun _ => ⟨hl8, fun _ => hm, fun h => ?_⟩, Or.inr rfl⟩))
          rw [b3.1.2.1, s3hi 70 (by omega) (by omega), h70] at h
          exact absurd ((nI_eq (by omega) (by omega)).mp h) hFF
end CPSU
