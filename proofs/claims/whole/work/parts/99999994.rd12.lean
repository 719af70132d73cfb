/-! ===== reading: a part, both sides ===== -/
def TV (b : Nat → Nat → Int32) (p p' i j : Nat) : Prop := (i ≤ j ∧ p ≤ p' ∧ (j - i) + 2 * (gI b j - gI b i) ≤ p' - p) ∧ ∀ x, i ≤ x → x < j → ¬ b 39 x = 4
theorem TW.v {b : Nat → Nat → Int32} {p p' i j : Nat} (h : TW b 0 p p' i j) : TV b p p' i j := ⟨⟨h.1.1, by have := h.1.2; omega, by have := h.1.2; omega⟩, h.2 rfl⟩
theorem TV.loc {b b' : Nat → Nat → Int32} {p p' i j : Nat} (h : TV b p p' i j) (hb : ∀ x, i ≤ x → x < j → b' 39 x = b 39 x ∧ b' 41 x = b 41 x) : TV b' p p' i j := ⟨⟨h.1.1, h.1.2.1, by rw [gI_loc h.1.1 hb]; exact h.1.2.2⟩, fun x x1 x2 => by rw [(hb x x1 x2).1]; exact h.2 x x1 x2⟩
theorem TV.join {b : Nat → Nat → Int32} {p p' q q' i j j2 : Nat} (h : TV b p p' i j) (g : TV b q q' j j2) (hq : p' ≤ q) : TV b p q' i j2 := by
  have l1 : gI b i ≤ gI b j := pfx_le h.1.1
  have l2 : gI b j ≤ gI b j2 := pfx_le g.1.1
  obtain ⟨⟨h1, h2, h2'⟩, h3⟩ := h
  obtain ⟨⟨g1, g2, g2'⟩, g3⟩ := g
  refine ⟨⟨by omega, by omega, by omega⟩, fun x x1 x2 => ?_⟩
  by_cases hx : x < j
  · exact h3 x x1 hx
  · exact g3 x (by omega) x2
theorem TV.wk {b : Nat → Nat → Int32} {p p' q q' i j : Nat} (h : TV b p p' i j) (h1 : q ≤ p) (h2 : p' ≤ q') : TV b q q' i j := ⟨⟨h.1.1, by have := h.1.2.1; omega, by have := h.1.2.1; have := h.1.2.2; omega⟩, h.2⟩
def PJF (X : Int32 × Int32 × Int32) (n rf : Nat) (K : cp_K) (S : cp_S) (l : List cp_I) (p n1 a pk : Nat) : Prop := ∃ (K' : cp_K) (S' : cp_S) (p' : Nat), KC 60 m_Q_readPart (fun G => [.ref (cp_b G + 21)]) K (fun G => some (va_rf (kr G 0))) K' ∧ K'.2.1 21 2 = nI p' ∧ (p ≤ p' ∧ p' ≤ n) ∧ BPK X n (some (.int (nI p'))) S' S p a ∧ KRX K.1.1 K.1.1 K K' ∧ RFY rf n1 l.length pk S S' ∧ K'.1.1 ≤ K.1.1 + (p' - p) + 1
def PJO (X : Int32 × Int32 × Int32) (tx : Nat → Nat) (n rf : Nat) (K : cp_K) (S : cp_S) (l : List cp_I) (p n1 a pk : Nat) : Prop := ∃ (K' : cp_K) (S' : cp_S) (p' n1' : Nat) (jk : List cp_I), KC 60 m_Q_readPart (fun G => [.ref (cp_b G + 21)]) K (fun G => some (va_rf (kr G K.1.1))) K' ∧ (∀ r Sx, RD X n r Sx p' S' → BPK X n r Sx S p a) ∧ RJ tx n rf K' S' (jk ++ (205, nI (a + 1), 0) :: l) p' n1' ∧ (jk.length ≤ 1 ∧ ∀ j ∈ jk, may j ∧ (p' < n → SKP (nI (tx p')) j)) ∧ PRT K' S'.2 rf K.1.1 pk n1 n1' K'.1.1 ∧ K'.2.2.1 K.1.1 6 = 0 ∧ S'.1 33 = nI (pk + 1) ∧ KRX K.1.1 K.1.1 K K' ∧ RFY rf n1 l.length pk S S' ∧ TV S'.2 p p' n1 n1' ∧ K'.1.1 ≤ K.1.1 + (p' - p) + 1 ∧ p < p'
section CPPJ
variable {X : Int32 × Int32 × Int32} {tx : Nat → Nat} {n rf : Nat} {K : cp_K} {S : cp_S} {l : List cp_I} {p n1 a pk : Nat}
/-- a part that is a term -/
theorem pj_term (rj : RJ tx n rf K S l p n1) (hp : p < n) (hl : l.length ≤ 5) (h33 : S.1 33 = nI pk) (hpk : pk < 179) (hk : tx p = 35 ∨ isL (tx p)) : PJF X n rf K S l p n1 a pk ∨ PJO X tx n rf K S l p n1 a pk := by
  obtain ⟨⟨r1, r2, r3, r4⟩, ps, ⟨r5, r6, r7, r8, r9⟩, r10, r11⟩ := id rj
  have hc : tx p < 200 := by have := (r10 p hp).1; omega
  obtain ⟨K0, hK0⟩ : ∃ K0 : cp_K, K0 = nn K 14 0 (nI p) := ⟨_, rfl⟩
  have k0 : KRX K.1.1 K.1.1 K K0 := by rw [hK0]; exact KRX_nn r4 (Nat.le_refl _) (Nat.le_refl _)
  have n0 : K0.1.1 = K.1.1 + 1 := by rw [hK0]; exact nn_n
  have ndq : nd K0 K.1.1 9 := by rw [hK0]; exact nn_nd r4
  obtain ⟨w0, w1, w2, w3⟩ := nn_new (K := K) (x := 14) (y := 0) (z := nI p)
  rw [← hK0] at w0 w1 w2 w3
  have wr : ∀ g, K0.2.2.1 K.1.1 g = 0 := fun g => by rw [hK0]; exact nn_rn
  obtain ⟨S0, hS0⟩ : ∃ S0 : cp_S, S0 = ptS (pshS S l.length 205 (nI (a + 1)) 0) pk 1 (-1) 1 (nI p) := ⟨_, rfl⟩
  have ps0 : PS S0 ((205, nI (a + 1), 0) :: l) n1 rf := by rw [hS0]; exact PS.pts ps.push
  have f0 : RFY rf n1 l.length pk S S0 := by rw [hS0]; exact (psh_rfy (Nat.le_refl _)).trans (pts_rfy (len := l.length)) (Nat.le_refl _) (Nat.le_refl _) (Nat.le_refl _)
  have at0 := pts_at (S := pshS S l.length 205 (nI (a + 1)) 0) (pk := pk) (kd := 1) (nm := -1) (tm := 1) (p := nI p)
  rw [← hS0] at at0
  have rj0 : RJ tx n rf K0 S0 ((205, nI (a + 1), 0) :: l) p n1 := rj.mvz k0 (f0.2.1 27 (by omega)) ps0 (by rw [hK0, nn_i (by omega)]; exact r1) r6 ⟨r7, r8⟩ (r11.eq (fun x hx => f0.2.2.2.1 x hx) (Nat.le_refl _)) (by omega)
  have bp : ∀ o Sx, BTK X n o Sx S0 p 2 → BPK X n o Sx S p a := fun o Sx w => bp_term ps (by omega) (r10 p hp).2.2 hc h33 (by omega) hk (by rw [← hS0]; exact w)
  have kc : ∀ (r : Nat) (K' : cp_K), KC 43 m_Q_withPiece (fun G => [.ref (cp_b G + 21), va_rf (kr G K.1.1), .int 2, .int 1]) K0 (fun G => some (va_rf (kr G r))) K' → KC 60 m_Q_readPart (fun G => [.ref (cp_b G + 21)]) K (fun G => some (va_rf (kr G r))) K' := fun r K' w => by
    have e : (kN K 9).2.1 21 2 = nI p := by
      show va_up K.2.1 K.1.1 (fun _ => 0) 21 2 = nI p
      rw [cp_up_ne (by omega)]; exact r1
    have g18 : ∀ x1, JC 60 m_Q_readPart (fun G => .inl (some (va_rf (kr G r)))) K' 18 (fun G => [(0, .ref (cp_b G + 21)), (1, .int x1)]) (fun _ => []) K := fun x1 => b_Q_readPart_18 (D := 52) ⟨r, K', by rw [e]; rw [hK0] at w; exact w.mono (by omega), rfl, rfl⟩
    refine c_Q_readPart (D := 52) ?_
    unfold wp_Q_readPart_0
    rw [rj.pk hp]
    refine ⟨r3, fun _ => g18 _, fun q35 => ⟨fun q => ?_, fun _ => g18 _⟩⟩
    rcases hk with h | h
    · exact absurd (by rw [h]; rfl) q35
    · exact absurd q (ifL1 hc h)
  rcases withP (X := X) (ql := K0.1.1) (pj_all 7) rj0 hp (by rw [List.length_cons]; omega) ndq (Or.inl ⟨wr 5, rfl⟩) with ⟨K', S', p', a1, a2, a3, a4, a5, a6, a7⟩ | ⟨K', S', p', n1', jk, a1, a2, a3, a4, a5, a6, ⟨a7, a8, a9, -⟩, a10, a11, a12, a13, a14⟩
  · exact Or.inl ⟨K', S', p', kc 0 K' a1, a2, a3, bp _ _ a4, k0.trans a5 (Or.inr (by omega)) (Or.inr (by omega)), f0.trans (a6.y) (Nat.le_refl _) (by rw [List.length_cons]; omega) (Nat.le_refl _), by omega⟩
  · have lt := RTR.lt _ _ _ _ _ a5
    rw [n0] at a5 a6 a9
    have e0 : ∀ g, g ≠ 3 → K'.2.1 K.1.1 g = K0.2.1 K.1.1 g := fun g hg => a10.2.2.2.1 K.1.1 (by omega) (by omega) g (Or.inr hg)
    have z4 : ∀ g, 44 ≤ g → g ≤ 48 → S'.2 g = S0.2 g := fun g g1 g2 => a11.2.1 g (by omega)
    refine Or.inr ⟨K', S', p', n1', jk, kc _ K' a1, fun r Sx w => bp _ _ (a2 r Sx w), a3, a4, ⟨a10.nd ndq, by omega, by omega, ?_, a9 (wr 5), Or.inr ⟨by rw [e0 0 (by decide)]; exact w0, a5, a6, Or.inr ⟨by rw [z4 44 (by omega) (by omega)]; exact at0.1, by rw [e0 1 (by decide)]; exact w1⟩⟩⟩, ?_, ?_, k0.trans a10 (Or.inl rfl) (Or.inr (by omega)), f0.trans (a11.y) (Nat.le_refl _) (by rw [List.length_cons]; omega) (Nat.le_refl _), a12.v, by omega, a14⟩
    · rw [z4 46 (by omega) (by omega), at0.2.2.1, psh_1 (by decide)]; exact ps.2.2.1
    · rw [a10.2.2.2.2.2.1 K.1.1 (by omega) 6 (Or.inr ⟨by decide, by decide⟩) (Or.inl (by omega))]; exact wr 6
    · rw [a11.1 33 (by decide) (by decide), hS0]; exact pts_33
/-- a part with a name -/
theorem pj_var (rj : RJ tx n rf K S l p n1) (hp : p < n) (hl : l.length ≤ 5) (h33 : S.1 33 = nI pk) (hpk : pk < 179) (hv : isV (tx p)) : PJF X n rf K S l p n1 a pk ∨ PJO X tx n rf K S l p n1 a pk := by
  obtain ⟨⟨r1, r2, r3, r4⟩, ps, ⟨r5, r6, r7, r8, r9⟩, r10, r11⟩ := id rj
  have hc : tx p < 200 := by have := (r10 p hp).1; omega
  have hv1 := hv.1
  have hv2 := hv.2
  obtain ⟨K0, hK0⟩ : ∃ K0 : cp_K, K0 = qlf K 14 (nI (tx p)) := ⟨_, rfl⟩
  have k0 : KRX K.1.1 K.1.1 K K0 := by rw [hK0]; exact KRX_leaf r4 (Nat.le_refl _) (Nat.le_refl _)
  have n0 : K0.1.1 = K.1.1 + 1 := by rw [hK0]; exact ql_n
  have ndq : nd K0 K.1.1 9 := ⟨r4, by omega, k0.2.2.1 _ (Nat.le_refl _) (by omega)⟩
  obtain ⟨w0, w1, w2, w3⟩ := ql_new (x := 14) (y := nI (tx p)) r4
  rw [← hK0] at w0 w1 w2 w3
  have wr : ∀ g, K0.2.2.1 K.1.1 g = 0 := fun g => by rw [hK0]; exact ql_rn
  have at0 : K0.2.1 21 2 = nI (p + 1) := by rw [hK0, ql_21 r4, if_pos rfl, r1, nI_1]
  obtain ⟨Sp, hSp⟩ : ∃ Sp : cp_S, Sp = ptS (pshS S l.length 205 (nI (a + 1)) 0) pk 0 (nI (tx p - 97)) 1 (nI p) := ⟨_, rfl⟩
  have psp : PS Sp ((205, nI (a + 1), 0) :: l) n1 rf := by rw [hSp]; exact PS.pts ps.push
  have fp : RFY rf n1 l.length pk S Sp := by rw [hSp]; exact (psh_rfy (Nat.le_refl _)).trans (pts_rfy (len := l.length)) (Nat.le_refl _) (Nat.le_refl _) (Nat.le_refl _)
  have atp := pts_at (S := pshS S l.length 205 (nI (a + 1)) 0) (pk := pk) (kd := 0) (nm := nI (tx p - 97)) (tm := 1) (p := nI p)
  rw [← hSp] at atp
  have sp33 : Sp.1 33 = nI (pk + 1) := by rw [hSp]; exact pts_33
  obtain ⟨S1, hS1⟩ : ∃ S1 : cp_S, S1 = pshS (pshS Sp (l.length + 1) 200 2 0) (l.length + 2) 58 0 0 := ⟨_, rfl⟩
  have ps1 : PS S1 ((nI 58, 0, 0) :: (200, 2, 0) :: (205, nI (a + 1), 0) :: l) n1 rf := by rw [hS1]; exact PS.push (l := (200, 2, 0) :: (205, nI (a + 1), 0) :: l) (PS.push (l := (205, nI (a + 1), 0) :: l) psp)
  have fS : RFY rf n1 (l.length + 1) 1000 Sp S1 := by rw [hS1]; exact (psh_rfy (P := 1000) (Nat.le_refl _)).trans (psh_rfy (P := 1000) (Nat.le_succ _)) (Nat.le_refl _) (Nat.le_refl _) (Nat.le_refl _)
  have sp1 : ∀ q, q < 49 → S1.2 q = Sp.2 q := fun q hq => by rw [hS1, psh_2 (by omega), psh_2 (by omega)]
  have sp1' : ∀ k, k ≠ 29 → S1.1 k = Sp.1 k := fun k hk => by rw [hS1, psh_1 hk, psh_1 hk]
  have f1 : RFY rf n1 l.length pk S S1 := fp.trans fS (Nat.le_refl _) (by omega) (by omega)
  have rj1 : RJ tx n rf K0 S1 ((nI 58, 0, 0) :: (200, 2, 0) :: (205, nI (a + 1), 0) :: l) (p + 1) n1 := rj.mvz k0 (f1.2.1 27 (by omega)) ps1 at0 (by omega) ⟨r7, by omega⟩ (r11.eq (fun x hx => f1.2.2.2.1 x hx) (by omega)) (by omega)
  have bp : ∀ o Sx, RD X n o Sx (p + 1) S1 → BPK X n o Sx S p a := fun o Sx w => bp_var ps (by omega) (r10 p hp).2.2 hc h33 (by omega) hv (by rw [← hSp, ← hS1]; exact w)
  have kc : ∀ (r : Nat) (K' : cp_K), (¬ qpk K0 = 58 → r = 0 ∧ K' = K0) → (qpk K0 = 58 → KC 43 m_Q_withPiece (fun G => [.ref (cp_b G + 21), va_rf (kr G K.1.1), .int 2, .int 1]) (qtk K0 58) (fun G => some (va_rf (kr G r))) K') → KC 60 m_Q_readPart (fun G => [.ref (cp_b G + 21)]) K (fun G => some (va_rf (kr G r))) K' := fun r K' w1 w2 => by
    refine c_Q_readPart (D := 52) ?_
    unfold wp_Q_readPart_0
    rw [rj.pk hp, ← hK0]
    refine ⟨r3, fun q => absurd q (nI_cc (a := 35) hc (by omega) (by omega)), fun _ => ⟨fun _ => ⟨fun q => absurd q (ifV1 hc hv), fun _ => ⟨fun q => ?_, fun q => ?_⟩⟩, fun q => absurd (ifL0 hc (fun h => by have := h.2; omega)) q⟩⟩
    · by_cases e : qpk K0 = 58
      · exact absurd q (ife1 e)
      · obtain ⟨e1, e2⟩ := w1 e
        rw [e1, e2, qtk_ne e]; exact ⟨rfl, rfl⟩
    · by_cases e : qpk K0 = 58
      · exact ⟨r, K', (w2 e).mono (by omega), rfl, rfl⟩
      · exact absurd (ife0 e) q
  have n200 : ¬ may (200, 2, 0) := by
    rintro (q | q | q | ⟨q, -⟩)
    · exact absurd (show (200 : Int32) = 201 from q) (by decide)
    · exact absurd (show (200 : Int32) = 211 from q) (by decide)
    · exact absurd (show (200 : Int32) = 215 from q) (by decide)
    · exact absurd (show (200 : Int32) = 218 from q) (by decide)
  have len3 : ((nI 58, 0, 0) :: (200, 2, 0) :: (205, nI (a + 1), 0) :: l : List cp_I).length ≤ 400 := by simp; omega
  by_cases hp1 : p + 1 = n
  · have rj1' := rj1
    rw [hp1] at rj1'
    have q0 : ¬ qpk K0 = 58 := by rw [rj1'.pk0]; decide
    refine Or.inl ⟨K0, S1, p + 1, kc 0 K0 (fun _ => ⟨rfl, rfl⟩) (fun q => absurd q q0), at0, ⟨by omega, by omega⟩, bp _ _ ?_, k0, f1, by omega⟩
    rw [hp1]
    exact rd_end_no ps1 len3 r5 (List.mem_cons_of_mem _ List.mem_cons_self) n200
  · have hp1' : p + 1 < n := by omega
    have hc1 : tx (p + 1) < 200 := by have := (r10 (p + 1) hp1').1; omega
    have ch := rd_chr (X := X) (tx := tx) (wc := 58) ps1 (by simp; omega) (by omega) hp1' r5 (rj1.2.2.2.1 _ hp1').2.2 hc1
    by_cases h58 : tx (p + 1) = 58
    · have q58 : qpk K0 = 58 := by rw [rj1.pk hp1', h58]; rfl
      obtain ⟨K1, hK1⟩ : ∃ K1 : cp_K, K1 = kI K0 21 2 (nI (p + 2)) := ⟨_, rfl⟩
      have hq : qtk K0 58 = K1 := by rw [qtk_eq (p := 0) q58, at0, nI_1, hK1]
      have k01 : ∀ x y, KRX x y K0 K1 := fun x y => by rw [hK1]; exact KRX_at
      have n1e : K1.1.1 = K.1.1 + 1 := by rw [hK1]; exact n0
      have i1 : ∀ x g, x ≠ 21 → K1.2.1 x g = K0.2.1 x g := fun x g hx => by rw [hK1, kI_i, cp_up_ne hx]
      have rr1 : ∀ x g, K1.2.2.1 x g = K0.2.2.1 x g := fun x g => by rw [hK1]; rfl
      obtain ⟨S2, hS2⟩ : ∃ S2 : cp_S, S2 = popS S1 ((200, 2, 0) :: (205, nI (a + 1), 0) :: l : List cp_I).length := ⟨_, rfl⟩
      have ps2 : PS S2 ((200, 2, 0) :: (205, nI (a + 1), 0) :: l) n1 rf := by rw [hS2]; exact PS.pop ps1
      have s12 : SPO S1 S2 := by rw [hS2]; exact pop_spo
      have rd2 : ∀ o Sx, RD X n o Sx (p + 2) S2 → BPK X n o Sx S p a := fun o Sx w => bp _ _ (ch.1 h58 o Sx (by rw [← hS2]; exact w))
      have f2 : RFY rf n1 l.length pk S S2 := f1.trans s12.rfy (Nat.le_refl _) (Nat.le_refl _) (Nat.le_refl _)
      have k1 : KRX K.1.1 K.1.1 K K1 := k0.trans (k01 _ _) (Or.inl rfl) (Or.inl rfl)
      by_cases hp2 : p + 2 = n
      · have rj2 : RJ tx n rf K1 S2 ((200, 2, 0) :: (205, nI (a + 1), 0) :: l) n n1 := rj.mvz k1 (f2.2.1 27 (by omega)) ps2 (by rw [hK1, kI_i, va_up_at, va_up_at, hp2]) (Nat.le_refl _) ⟨r7, by omega⟩ (r11.eq (fun x hx => f2.2.2.2.1 x hx) (by omega)) (by omega)
        refine Or.inl ⟨K1, S2, n, kc 0 K1 (fun q => absurd q58 q) (fun _ => by rw [hq]; exact (withP_end (d := 1) rj2).mono (by omega)), rj2.1.1, ⟨by omega, Nat.le_refl _⟩, rd2 _ _ ?_, k1, f2, by omega⟩
        rw [hp2]
        exact rd_end_no ps2 (by simp; omega) r5 List.mem_cons_self n200
      · obtain ⟨S3, hS3⟩ : ∃ S3 : cp_S, S3 = popS S2 ((205, nI (a + 1), 0) :: l : List cp_I).length := ⟨_, rfl⟩
        have ps3 : PS S3 ((205, nI (a + 1), 0) :: l) n1 rf := by rw [hS3]; exact PS.pop ps2
        have s23 : SPO S2 S3 := by rw [hS3]; exact pop_spo
        have f3 : RFY rf n1 l.length pk S S3 := f2.trans s23.rfy (Nat.le_refl _) (Nat.le_refl _) (Nat.le_refl _)
        have rd3 : ∀ o Sx, BTK X n o Sx S3 (p + 2) 2 → BPK X n o Sx S p a := fun o Sx w => rd2 _ _ (rd_term ps2 (by simp; omega) (by omega) r5 (bb := 2) (by decide) (by rw [← hS3]; exact w))
        have rj3 : RJ tx n rf K1 S3 ((205, nI (a + 1), 0) :: l) (p + 2) n1 := rj.mvz k1 (f3.2.1 27 (by omega)) ps3 (by rw [hK1, kI_i, va_up_at, va_up_at]) (by omega) ⟨r7, by omega⟩ (r11.eq (fun x hx => f3.2.2.2.1 x hx) (by omega)) (by omega)
        rcases withP (X := X) (ql := K1.1.1) (pj_all 7) rj3 (by omega) (by rw [List.length_cons]; omega) ((k01 0 0).nd ndq) (Or.inl ⟨by rw [rr1]; exact wr 5, rfl⟩) with ⟨K', S', p', a1, a2, a3, a4, a5, a6, a7⟩ | ⟨K', S', p', n1', jk, a1, a2, a3, a4, a5, a6, ⟨a7, a8, a9, -⟩, a10, a11, a12, a13, a14⟩
        · exact Or.inl ⟨K', S', p', kc 0 K' (fun q => absurd q58 q) (fun _ => by rw [hq]; exact a1), a2, ⟨by omega, a3.2⟩, rd3 _ _ a4, k1.trans a5 (Or.inr (by omega)) (Or.inr (by omega)), f3.trans a6.y (Nat.le_refl _) (by rw [List.length_cons]; omega) (Nat.le_refl _), by omega⟩
        · have lt := RTR.lt _ _ _ _ _ a5
          rw [n1e] at a5 a6 a9
          have e0 : ∀ g, g ≠ 3 → K'.2.1 K.1.1 g = K0.2.1 K.1.1 g := fun g hg => by rw [a10.2.2.2.1 K.1.1 (by omega) (by omega) g (Or.inr hg), i1 _ _ (by omega)]
          have z4 : ∀ g, 44 ≤ g → g ≤ 48 → S'.2 g = Sp.2 g := fun g g1 g2 => by rw [a11.2.1 g (by omega), s23.2, s12.2, sp1 g (by omega)]
          refine Or.inr ⟨K', S', p', n1', jk, kc _ K' (fun q => absurd q58 q) (fun _ => by rw [hq]; exact a1), fun r Sx w => rd3 _ _ (a2 r Sx w), a3, a4, ⟨a10.nd ((k01 0 0).nd ndq), by omega, by omega, ?_, a9 (by rw [rr1]; exact wr 5), Or.inr ⟨by rw [e0 0 (by decide)]; exact w0, a5, a6, Or.inl ⟨tx p - 97, by omega, by rw [z4 44 (by omega) (by omega)]; exact atp.1, by rw [z4 45 (by omega) (by omega)]; exact atp.2.1, by rw [e0 1 (by decide), w1]; congr 1; omega⟩⟩⟩, ?_, ?_, k1.trans a10 (Or.inl rfl) (Or.inr (by omega)), f3.trans a11.y (Nat.le_refl _) (by rw [List.length_cons]; omega) (Nat.le_refl _), a12.v.wk (by omega) (Nat.le_refl _), by omega, by omega⟩
          · rw [z4 46 (by omega) (by omega), atp.2.2.1, psh_1 (by decide)]; exact ps.2.2.1
          · rw [a10.2.2.2.2.2.1 K.1.1 (by omega) 6 (Or.inr ⟨by decide, by decide⟩) (Or.inl (by omega)), rr1]; exact wr 6
          · rw [a11.1 33 (by decide) (by decide), s23.1 33 (by decide), s12.1 33 (by decide), sp1' 33 (by decide)]; exact sp33
    · have q0 : ¬ qpk K0 = 58 := by rw [rj1.pk hp1']; exact nI_cc (a := 58) hc1 (by omega) h58
      exact Or.inl ⟨K0, _, p + 1, kc 0 K0 (fun _ => ⟨rfl, rfl⟩) (fun q => absurd q q0), at0, ⟨by omega, by omega⟩, bp _ _ (ch.2 h58), k0, f1.trans pop_spo.rfy (Nat.le_refl _) (Nat.le_refl _) (Nat.le_refl _), by omega⟩
end CPPJ
