/-! ===== types: a condition, both sides ===== -/
/-- the condition q of the class and the part pt of the reference -/
def PCN (K : cp_K) (b : Nat → Nat → Int32) (ar : Nat → Nat) (k : Nat) (sc : Nat → Prop) (q pt d : Nat) : Prop := nd K q 9 ∧ K.2.1 q 0 = 15 ∧ b 44 pt = 2 ∧ pt < 180 ∧ ∃ l m i j, l < 26 ∧ m ≤ 4 ∧ K.2.1 q 1 = nI (65 + l) ∧ b 45 pt = nI l ∧ b 46 pt = nI i ∧ b 47 pt = nI m ∧ b 30 l = 2 ∧ b 31 l = nI m ∧ CHZ (DTM K b ar k sc) K m (K.2.2.1 q 4) (K.2.2.1 q 5) i j ∧ j ≤ 2720 ∧ j - i ≤ d
theorem PCN.mv {K K' : cp_K} {b b' : Nat → Nat → Int32} {ar : Nat → Nat} {k q pt d : Nat} {sc : Nat → Prop} (hK : NK K K') (hb : BK b b') (h : PCN K b ar k sc q pt d) : PCN K' b' ar k sc q pt d := by
  obtain ⟨h0, h1, h2, h3, l, m, i, j, q1, q2, q3, q4, q5, q6, q7, q8, q9, q10⟩ := h
  refine ⟨hK.2.2 _ _ h0, by rw [hK.1 q 0 h0.1]; exact h1, by rw [hb 44 (by omega)]; exact h2, h3, l, m, i, j, q1, q2, by rw [hK.1 q 1 h0.1]; exact q3, by rw [hb 45 (by omega)]; exact q4, by rw [hb 46 (by omega)]; exact q5, by rw [hb 47 (by omega)]; exact q6, by rw [hb 30 (by omega)]; exact q7, by rw [hb 31 (by omega)]; exact q8, ?_, q10⟩
  rw [hK.2.1]
  exact CHZ.mv hK (fun q i j h => h.mv hK hb) _ _ _ _ _ q9
abbrev LT (p1 p2 frame p4 p5 : Nat) : cp_G → List (Nat × Value) := fun G => [(0, .ref (cp_b G + 24)), (1, va_rf (kr G p1)), (2, va_rf (kr G p2)), (3, .int (nI frame)), (4, va_rf (kr G p4)), (5, va_rf (kr G p5))]
section CPCC
variable {ar : Nat → Nat} {rf : Nat} {pl : Nat → Nat → Prop} {lev n : Nat} {hl : List Nat} {C F : Nat} {L : Nat → Nat → Nat → Nat → Prop} {frame k : Nat} {sc : Nat → Prop} {K : cp_K} {S : cp_S} {ρ : Nat → Nat → Prop} {nv nc : Nat}
theorem cond {D p1 p2 p4 q pt d lv : Nat} (st : TVS ar hl C K S ρ nv nc) (hs : HLS S rf pl L ρ) (hd4 : HD4 (rat K 7) hl) (h42 : S.1 42 = nI F) (hF : F < 1000) (hFC : C ≤ F) (hB : BS K n) (hn : n ≤ 9000) (fr : FRM K frame S lev sc ρ) (hDc : DIC K S.2 ar) (hc : PCN K S.2 ar k sc q pt d) (hk : k ≤ 40) (hlev : lev ≤ 9) (hd : d ≤ 110) (h7 : rsz K 7 < 1040000) (hnv : nv + 300 < 6000) (hnc : nc + 300 < 6000) (hD : 330 ≤ D) (n1 : nd K p1 9) (n2 : nd K p2 10) (n3 : nd K (K.2.2.1 p2 4) 9) (hq : q ≠ K.2.2.1 (K.2.2.1 p2 4) 5) (h58 : S.1 58 = 0) :
    ∃ (ok : Bool) (K' : cp_K) (S' : cp_S) (ρ' : Nat → Nat → Prop) (nv' nc' C' F' : Nat), (ok = true → ∀ o Kx, JC (D + 8) m_T_typeOfConstant o Kx 176 (LT p1 p2 frame p4 q) (fun _ => []) K' → JC (D + 8) m_T_typeOfConstant o Kx 59 (LT p1 p2 frame p4 q) (fun _ => []) K) ∧ (ok = false → JC (D + 8) m_T_typeOfConstant (fun _ => .inl (some (.int (-1)))) (kI K' 24 6 (K.2.1 p1 2)) 59 (LT p1 p2 frame p4 q) (fun _ => []) K) ∧ MC 5 m_M_condition [.int (nI pt), .int (nI lev)] S (some (.int (if ok then 1 else 0))) S' ∧ TPO ar rf pl lv n n K S ρ nv nc hl C F L K' S' ρ' nv' nc' hl C' F' L ∧ (rsz K' 7 ≤ rsz K 7 + 900 + 9 * d ∧ nv ≤ nv' ∧ nc ≤ nc' ∧ nv' ≤ nv + 100 + d ∧ nc' ≤ nc + 100 + d ∧ (F' = F → nv' = nv ∧ nc' = nc) ∧ F' = F + (C' - C)) ∧ S'.2 63 = S.2 63 ∧ ∀ p, 65 ≤ p → p ≤ 70 → S'.2 p = S.2 p := by
  obtain ⟨h0, h1, h2, h3, l, m, i, j, q1, q2, q3, q4, q5, q6, q7, q8, q9, q10, q11⟩ := hc
  have ltij := CHZ.le (fun q i j h => DTM.lt h) _ _ _ _ _ q9
  have h35 := st.2.1.1
  have h40 := st.2.1.2
  -- the terms
  obtain ⟨K1, S1, ρ1, nv1, nc1, iL, d1, d2, d3, d4, d5, ⟨d6, d7, d8, d9, d10, d11⟩, d12, d13⟩ := cd_terms (lv := lv) (D := D - 1) (pq := q) (pt := pt) (x4 := nI nv) (x5 := nI nc) (x6 := nI F) hk (by omega) q2 hlev q10 (by omega) h3 m 0 _ i K S ρ nv nc (by omega) q9 h0 rfl q6 st hs hd4 h42 hB fr (fun x hx => by omega) (by omega) (by omega) (by omega) (by omega)
  rw [Nat.add_zero] at d4
  have ltL := d3.lt
  have kbt : KC (D + 7) m_T_bindTerms (fun G => [.ref (cp_b G + 24), va_rf (kr G q), .int (nI frame)]) K (fun _ => some (.int (nI n))) K1 := by
    have hz := d4.2.2.2.2.1.nk
    have := c_T_bindTerms (D := D - 1) (o := fun _ => some (.int (nI n))) (K' := K1) (K := K) (p1 := q) (x2 := nI frame) ⟨h0, by
      rw [hB.1]
      refine d1 _ _ (b_T_bindTerms_14 ⟨fun hn => ⟨rfl, rfl⟩, fun _ => ⟨hz.2.2 _ _ h0, fun _ => ⟨rfl, rfl⟩, fun hn => absurd ?_ hn⟩⟩)
      rw [hz.2.1]⟩
    exact this.mono (by omega)
  -- the run
  have nk1 := d4.2.2.2.2.1.nk
  have bk1 := d4.2.2.2.2.2.1.bk
  obtain ⟨x, z, K2, S2, ρ2, nv2, nc2, e1, e2, e3, e4, e5, e6, e7, e8, e9, e10⟩ := TPO.run (lev := lv) (n := n) (m := m) (c := l) d4.1.1 d4.1.2.2.1 d4.1.2.2.2 d4.1.2.1 d4.2.2.2.2.2.2.1 hn (by omega) (by omega) (by omega) (hDc.mv nk1 bk1) q1 (by rw [bk1 30 (by omega)]; exact q7) (by rw [bk1 31 (by omega)]; exact q8) q2 d5 (by rw [d4.2.2.2.2.2.1.1 58 (by decide)]; exact h58)
  have T2 := d4.trans e3 (Nat.le_refl _) (Nat.le_refl _) (fun _ => ⟨d7, d9⟩)
  have nk2 := T2.2.2.2.2.1.nk
  have bk2 := T2.2.2.2.2.2.1.bk
  have s63 : S2.2 63 = S.2 63 := (e10 63 (by omega) (by omega)).trans d12
  have s65 : ∀ p, 65 ≤ p → p ≤ 70 → S2.2 p = S.2 p := fun p p1 p2 => (e10 p (by omega) (by omega)).trans (d13 p p1 p2)
  have rset : ∀ (Kx : cp_K) (Sx : cp_S) (ρx : Nat → Nat → Prop) (nvx ncx Cx : Nat), TPO ar rf pl lv n n K S ρ nv nc hl C F L Kx Sx ρx nvx ncx hl Cx (F + (Cx - C)) L → nv ≤ nvx → nc ≤ ncx → ∃ (S' : cp_S) (ρ' : Nat → Nat → Prop) (nv' nc' : Nat), ((¬ Sx.1 42 = nI F → S' = Sx) ∧ (Sx.1 42 = nI F → S' = (va_up (va_up Sx.1 35 (nI nv)) 40 (nI nc), Sx.2))) ∧ TPO ar rf pl lv n n K S ρ nv nc hl C F L Kx S' ρ' nv' nc' hl Cx (F + (Cx - C)) L ∧ nv ≤ nv' ∧ nv' ≤ nvx ∧ nc ≤ nc' ∧ nc' ≤ ncx ∧ (F + (Cx - C) = F → nv' = nv ∧ nc' = nc) ∧ S'.2 = Sx.2 := by
    intro Kx Sx ρx nvx ncx Cx hT hv hc
    have hC := hT.1.1.1.1.2.2.2.1
    have hCn : Cx ≤ hl.length := by omega
    have hl3 := hT.1.1.1.1.2.2.2.2.1
    have hlN := hT.1.1.1.1.2.2.2.2.2.2.2
    have g42 := hT.1.2.1
    by_cases hc0 : F + (Cx - C) = F
    · have hCx : Cx = C := by have := hT.2.2.1.2.1; omega
      refine ⟨(va_up (va_up Sx.1 35 (nI nv)) 40 (nI nc), Sx.2), ρ, nv, nc, ⟨fun hn => absurd (by rw [g42, hc0]) hn, fun _ => rfl⟩, ?_, Nat.le_refl _, hv, Nat.le_refl _, hc, fun _ => ⟨rfl, rfl⟩, rfl⟩
      have := TPO.reset (S2 := (va_up (va_up Sx.1 35 (nI nv)) 40 (nI nc), Sx.2)) st hs hT hc0 rfl (fun k k1 k2 => by show va_up (va_up Sx.1 35 (nI nv)) 40 (nI nc) k = _; rw [cp_up_ne k2, cp_up_ne k1]) (by show va_up (va_up Sx.1 35 (nI nv)) 40 (nI nc) 35 = _; rw [cp_up_ne (by decide), va_up_at]) (by show va_up (va_up Sx.1 35 (nI nv)) 40 (nI nc) 40 = _; rw [va_up_at])
      rw [hc0, hCx]
      exact this
    · refine ⟨Sx, ρx, nvx, ncx, ⟨fun _ => rfl, fun q => ?_⟩, hT, hv, Nat.le_refl _, hc, Nat.le_refl _, fun q => absurd q hc0, rfl⟩
      rw [g42] at q
      exact absurd ((nI_eq (by omega) (by omega)).mp q) hc0
  have into59 : ∀ (o : cp_G → cp_O) (Kx : cp_K), (((x : Int32) = (-1) → nd K2 p1 9 ∧ (o = (fun _ => .inl (some (.int (-1)))) ∧ Kx = (kI K2 24 6 (K2.2.1 p1 2)))) ∧ (¬ (x : Int32) = (-1) → nd K2 q 9 ∧ ∃ r18 T16, KC (D + 7) m_T_valueBy (fun G => [.ref (cp_b G + 24), va_rf (kr G (K2.2.2.1 q 5)), .int (nI frame)]) K2 (fun _ => some (.int r18)) T16 ∧ ∃ r21 T19, KC (D + 7) m_V_makeSame (fun G => [.ref (cp_b G + 6), .int x, .int r18]) T16 (fun _ => some (.int r21)) T19 ∧ ((¬ (r21 : Int32) = 0 → JC (D + 8) m_T_typeOfConstant o Kx 176 (LT p1 p2 frame p4 q) (fun _ => []) T19) ∧ ((r21 : Int32) = 0 → nd T19 p1 9 ∧ (o = (fun _ => .inl (some (.int (-1)))) ∧ Kx = (kI T19 24 6 (T19.2.1 p1 2))))))) → JC (D + 8) m_T_typeOfConstant o Kx 59 (LT p1 p2 frame p4 q) (fun _ => []) K := by
    intro o Kx w
    refine b_T_typeOfConstant_59 ⟨fun hn => absurd hn (by have := h0.1; omega), fun _ => ⟨n2, n3, fun hn => absurd hn hq, fun _ => ⟨h0, fun hn => absurd h1 hn, fun _ => ⟨nI n, K1, kbt, x, K2, ?_, w⟩⟩⟩⟩
    rw [q3]
    exact e1.mono (by omega)
  have into28 : ∀ (o : Option Value) (S' : cp_S), (((z : Int32) = (-1) → JJ 5 m_M_condition o S' 101 [(1, .int (nI pt)), (2, .int (nI lev)), (3, .int (nI iL)), (4, .int (nI nv)), (5, .int (nI nc)), (6, .int (nI F)), (7, .int z)] S2) ∧ (¬ (z : Int32) = (-1) → ∃ r8 T7, MC 2 m_M_valueOf [.int (nI iL), .int (nI lev)] S2 (some (.int r8)) T7 ∧ ∃ r11 T10, MC 3 m_M_makeSame [.int z, .int r8] T7 (some (.int r11)) T10 ∧ (((r11 : Int32) = 0 → JJ 5 m_M_condition o S' 101 [(1, .int (nI pt)), (2, .int (nI lev)), (3, .int (nI iL)), (4, .int (nI nv)), (5, .int (nI nc)), (6, .int (nI F)), (7, .int z)] T10) ∧ (¬ (r11 : Int32) = 0 → ((¬ ((T10.1 42) : Int32) = nI F → (o = some (.int 1) ∧ S' = T10 ∧ narrow .boolean (.int 1) = .int 1)) ∧ (((T10.1 42) : Int32) = nI F → (o = some (.int 1) ∧ S' = ((va_up (va_up T10.1 35 (nI nv)) 40 (nI nc)), T10.2) ∧ narrow .boolean (.int 1) = .int 1))))))) → MC 5 m_M_condition [.int (nI pt), .int (nI lev)] S o S' := by
    intro o S' w
    refine c_M_condition (b_M_condition_0 ?_)
    unfold wp_M_condition_0
    rw [nI_clamp (show pt < 2 ^ 31 by omega), q5, h35, h40, h42]
    refine ⟨vp_in_nI (show pt < 180 by omega) (by decide), d2 o S' (b_M_condition_28 ?_)⟩
    unfold wp_M_condition_28
    rw [nI_clamp (show pt < 2 ^ 31 by omega), bk1 47 (by omega), q6, bk1 45 (by omega), q4]
    exact ⟨vp_in_nI (show pt < 180 by omega) (by decide), fun _ => ⟨vp_in_nI (show pt < 180 by omega) (by decide), z, S2, e2, w⟩, fun hn => absurd (nI_le (by omega) (by omega)) hn⟩
  rcases e4 with ⟨rfl, rfl⟩ | ⟨v, r, rfl, rfl, hvr⟩
  · -- the run fails
    obtain ⟨S', ρ', nv', nc', ⟨w1, w2⟩, w3, w4, w5, w6, w7, w8, w9⟩ := rset K2 S2 ρ2 nv2 nc2 C (by rw [Nat.sub_self, Nat.add_zero]; exact T2) (by omega) (by omega)
    refine ⟨false, K2, S', ρ', nv', nc', C, F + (C - C), fun h => (by cases h), fun _ => into59 _ _ ⟨fun _ => ⟨nk2.2.2 _ _ n1, rfl, by rw [nk2.1 p1 2 n1.1]⟩, fun hn => absurd rfl hn⟩, into28 _ _ ⟨fun _ => b_M_condition_101 ⟨fun hn => ⟨rfl, w1 hn, rfl⟩, fun hy => ⟨rfl, w2 hy, rfl⟩⟩, fun hn => absurd rfl hn⟩, w3, ⟨by omega, w4, w6, by omega, by omega, w8, rfl⟩, by rw [w9]; exact s63, fun p p1 p2 => by rw [w9]; exact s65 p p1 p2⟩
  · -- the last term
    have v31 := (e3.1.1.1.1.1.1 _ _ hvr).1
    have N31 := e3.1.1.1.1.2.2.2.2.2.2.2
    have nv31 := (e3.1.1.1.1.1.1 _ _ hvr).2.1
    have nv6 := e3.1.1.1.1.2.2.2.2.2.1
    have fr2 : FRM K2 frame S2 lev sc ρ2 := fr.mv (fun c v _ q => LU.same hB T2.2.2.2.2.2.2.1 T2.2.2.2.2.2.2.2 q) (fun c _ => by rw [s63]) T2.2.1.1
    have d3' : DTM K2 S2.2 ar k sc (K.2.2.1 q 5) iL j := d3.mv e3.2.2.2.2.1.nk e3.2.2.2.2.2.1.bk
    obtain ⟨v2, r2, K3, S3, ρ3, nv3, nc3, a1, a2, a3, a4, a5, a6, a7, a8, a9⟩ := evd e3.1.1 T2.2.2.2.2.2.2.1 (by omega) fr2 d3' hk hlev q10 (by omega) (by omega) (by omega) (by omega)
    obtain ⟨y1, y2, y3, y4, y5, y6, y7, y8, y9, y10, y11, y12, y13⟩ := id a4
    obtain ⟨c1, c2, c3, c4, c5, c6⟩ := id a1
    have T3 : TPO ar rf pl lv n n K2 S2 ρ2 nv2 nc2 hl C F L K3 S3 ρ3 nv3 nc3 hl C F L := TPO.ev e3.1.2.2.1 e3.1.2.2.2 e3.1.1.1.2.1 e3.1.2.1 a9 a8 (KX.of c1 (by decide)) (by rw [c1.1]) c2 (fun q hq x hx => c3 q (by omega) x hx) c4 c6 (fun k hk => y9 k (fun q => hk (by rw [q]; decide)) (fun q => hk (by rw [q]; decide))) (fun p hp => y10 p (by omega)) (fun x _ => by rw [y10 63 (by omega)]) (fun p p1 p2 x _ => by rw [y10 p (by omega)]) y11 y12
    have T3' := T2.trans T3 (Nat.le_refl _) (Nat.le_refl _) (fun _ => ⟨by omega, by omega⟩)
    obtain ⟨ok, K4, S4, C4, b1, b2, b3, b4, b5, b6⟩ := TPO.same (lev := lv) a9 T3.1.2.2.1 T3.1.2.2.2 T3.1.2.1 c2 (a8 _ _ hvr) a7
    have T4 := T3'.trans b3 (Nat.le_refl _) (Nat.le_refl _) (fun _ => ⟨by omega, by omega⟩)
    obtain ⟨S', ρ', nv', nc', ⟨w1, w2⟩, w3, w4, w5, w6, w7, w8, w9⟩ := rset K4 S4 ρ3 nv3 nc3 C4 T4 (by omega) (by omega)
    have nk4 := T4.2.2.2.2.1.nk
    have clv : KC (D + 7) m_T_valueBy (fun G => [.ref (cp_b G + 24), va_rf (kr G (K2.2.2.1 q 5)), .int (nI frame)]) K2 (fun _ => some (.int (nI v2))) K3 := by rw [nk2.2.1]; exact a3.mono (by omega)
    have s63' : S'.2 63 = S.2 63 := by rw [w9, b5, y10 63 (by omega)]; exact s63
    have s65' : ∀ p, 65 ≤ p → p ≤ 70 → S'.2 p = S.2 p := fun p p1 p2 => by rw [w9, b6 p p1 (by omega), y10 p (by omega)]; exact s65 p p1 p2
    refine ⟨ok, K4, S', ρ', nv', nc', C4, F + (C4 - C), fun hok o Kx w => into59 _ _ ⟨fun hn => absurd hn (nI_m1 (by omega)), fun _ => ⟨nk2.2.2 _ _ h0, nI v2, K3, clv, _, K4, b1.mono (by omega), fun _ => w, fun hn => ?_⟩⟩, fun hok => into59 _ _ ⟨fun hn => absurd hn (nI_m1 (by omega)), fun _ => ⟨nk2.2.2 _ _ h0, nI v2, K3, clv, _, K4, b1.mono (by omega), fun hn => ?_, fun _ => ⟨nk4.2.2 _ _ n1, rfl, by rw [nk4.1 p1 2 n1.1]⟩⟩⟩, into28 _ _ ⟨fun hn => absurd hn (nI_m1 (by omega)), fun _ => ⟨nI r2, S3, a6, _, S4, b2, fun hz => ?_, fun hz => ?_⟩⟩, w3, ⟨by omega, w4, w6, by omega, by omega, w8, rfl⟩, s63', s65'⟩
    · rw [hok] at hn; exact absurd hn (by decide)
    · rw [hok] at hn; exact absurd rfl hn
    · cases ok with
      | true => exact absurd hz (by decide)
      | false => exact b_M_condition_101 ⟨fun hn => ⟨rfl, w1 hn, rfl⟩, fun hy => ⟨rfl, w2 hy, rfl⟩⟩
    · cases ok with
      | false => exact absurd rfl hz
      | true => exact ⟨fun hn => ⟨rfl, w1 hn, rfl⟩, fun hy => ⟨rfl, w2 hy, rfl⟩⟩
end CPCC
