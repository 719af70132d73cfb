/-! ===== reading codes: a letter, both sides ===== -/
section CPCE2
variable {X : Int32 × Int32 × Int32} {tx : Nat → Nat} {n rf f : Nat}
theorem cj_letter (hA : 1 ≤ f → AC X tx n rf f 0) {d : Nat} {K : cp_K} {S : cp_S} {l : List cp_I} {p n1 : Nat} (hdf : d + (f + 1) = 13) (hd1 : 1 ≤ d) (rj : RJ tx n rf K S l p n1) (hp : p < n) (hl : l.length ≤ 8 * d + 20) (hL : isL (tx p)) : CJR X tx n rf (f + 1) d K S l p n1 := by
  obtain ⟨⟨r1, r2, r3, r4⟩, ps, ⟨r5, r6, r7, r8, r9⟩, r10, r11⟩ := id rj
  have hc : tx p < 200 := by have := (r10 p hp).1; omega
  have hL1 := hL.1
  have hL2 := hL.2
  obtain ⟨K1, hK1⟩ : ∃ K1 : cp_K, K1 = qlf K 6 (nI (tx p)) := ⟨_, rfl⟩
  have rj0 : RJ tx n rf K1 (ndS S n1 rf 5 (nI (tx p - 65)) (nI p)) l (p + 1) (n1 + 1) := by rw [hK1]; exact rj.leaf hp
  have k01 : KRX K.1.1 K.1.1 K K1 := by rw [hK1]; exact KRX_leaf r4 (Nat.le_refl _) (Nat.le_refl _)
  have n11 : K1.1.1 = K.1.1 + 1 := by rw [hK1]; exact ql_n
  obtain ⟨w0, w1, w2, w3⟩ := ql_new (x := 6) (y := nI (tx p)) r4
  rw [← hK1] at w0 w1 w2 w3
  have wr : ∀ g, K1.2.2.1 K.1.1 g = 0 := fun g => by rw [hK1]; exact ql_rn
  have nd1 : nd K1 K.1.1 9 := ⟨r4, by omega, k01.2.2.1 _ (Nat.le_refl _) (by omega)⟩
  obtain ⟨S1, hS1⟩ : ∃ S1 : cp_S, S1 = pshS (ndS S n1 rf 5 (nI (tx p - 65)) (nI p)) l.length 211 (nI n1) (nI d) := ⟨_, rfl⟩
  have ps1 : PS S1 ((211, nI n1, nI d) :: l) (n1 + 1) rf := by rw [hS1]; exact rj0.2.1.push
  have f01 : RFX rf n1 l.length n1 S S1 := by rw [hS1]; exact (nds_rfx (len := l.length) (i0 := n1)).trans (psh_rfx (m := n1) (i0 := n1) (Nat.le_refl _)) (Nat.le_refl _) (Nat.le_refl _) (Or.inl rfl)
  have s1lo : ∀ q, q < 49 → S1.2 q = (ndS S n1 rf 5 (nI (tx p - 65)) (nI p)).2 q := fun q hq => by rw [hS1, psh_2 (by omega)]
  have s39 : S1.2 39 n1 = 5 := by rw [s1lo 39 (by omega)]; exact nds_at.1
  have s40 : S1.2 40 n1 = nI (tx p - 65) := by rw [s1lo 40 (by omega)]; exact nds_at.2.1
  have s41 : S1.2 41 n1 = 0 := by rw [s1lo 41 (by omega)]; exact nds_at.2.2
  have s42 : S1.2 42 (n1 - rf) = nI p := by rw [s1lo 42 (by omega), nds_42, if_pos rfl]
  have rj1 : RJ tx n rf K1 S1 ((211, nI n1, nI d) :: l) (p + 1) (n1 + 1) := rj.mv k01 f01 ps1 rj0.1.1 (by omega) ⟨by omega, by omega⟩ (rj0.2.2.2.2.eq (fun x _ => by rw [s1lo 42 (by omega)]) (Nat.le_refl _)) (by omega)
  have bck : ∀ r Sx, RD X n r Sx (p + 1) S1 → BCK X n r Sx S p d := fun r Sx w => bc_let (c := tx p) ps (by omega) (by omega) r7 (by omega) (by omega) (r10 p hp).2.2 hc hL (by rw [← hS1]; exact w)
  have ka : ∀ (r : Nat) (K' : cp_K), KC (14 + 6 * f) m_Q_readApplication (fun G => [.ref (cp_b G + 21), .int 3, .int (nI d)]) K (fun G => some (va_rf (kr G r))) K' → KC (10 + 6 * (f + 1)) m_Q_piece (fun G => [.ref (cp_b G + 21), .int 3, .int (nI d)]) K (fun G => some (va_rf (kr G r))) K' := fun r K' kc => by
    refine (c_Q_piece (D := 7 + 6 * f) ?_).mono (by omega)
    unfold wp_Q_piece_0
    rw [rj.pk hp]
    exact ⟨r3, fun _ => ⟨fun _ => ⟨fun q => absurd q (ifL1 hc hL), fun _ => ⟨r, K', kc.mono (by omega), rfl, rfl⟩⟩, fun q => absurd (ifD0 hc (fun w => by have := w.2; omega)) q⟩, fun q => absurd (ifV0 hc (fun w => by have := w.1; omega)) q⟩
  have rap : ∀ (r : Nat) (K' : cp_K), ((12 ≤ nI d → r = K.1.1 ∧ K' = K1) ∧ (¬ 12 ≤ nI d → (qpk K1 = 40 → ∃ r5 T3, KC (12 + 6 * f) m_Q_readPieces (fun G => [.ref (cp_b G + 21), va_rf (kr G K.1.1), .int 3, .int (nI (d + 1)), .int 41]) (qtk K1 40) (fun _ => some (.int r5)) T3 ∧ (r5 = 0 → r = 0 ∧ K' = T3) ∧ (¬ r5 = 0 → r = K.1.1 ∧ K' = T3)) ∧ (¬ qpk K1 = 40 → r = K.1.1 ∧ K' = K1))) → KC (14 + 6 * f) m_Q_readApplication (fun G => [.ref (cp_b G + 21), .int 3, .int (nI d)]) K (fun G => some (va_rf (kr G r))) K' := fun r K' w => by
    refine (c_Q_readApplication (D := 5 + 6 * f) ?_).mono (by omega)
    unfold wp_Q_readApplication_0
    rw [rj.pk hp, ← hK1]
    refine ⟨r3, fun q => absurd rfl q, fun _ => ⟨fun h8 => ?_, fun h8 => ⟨fun h => ?_, fun h => ?_⟩⟩⟩
    · obtain ⟨e1, e2⟩ := w.1 h8
      rw [e1, e2]; exact ⟨rfl, rfl⟩
    · by_cases h40 : qpk K1 = 40
      · obtain ⟨r5, T3, a1, a2, a3⟩ := (w.2 h8).1 h40
        refine ⟨r5, T3, by rw [nI_1]; exact a1.mono (by omega), fun q => ?_, fun q => ?_⟩
        · obtain ⟨e1, e2⟩ := a2 q
          rw [e1, e2]; exact ⟨rfl, rfl⟩
        · obtain ⟨e1, e2⟩ := a3 q
          rw [e1, e2]; exact ⟨rfl, rfl⟩
      · exact absurd (ife0 h40) h
    · by_cases h40 : qpk K1 = 40
      · exact absurd h (ife1 h40)
      · obtain ⟨e1, e2⟩ := (w.2 h8).2 h40
        rw [e1, e2, qtk_ne h40]; exact ⟨rfl, rfl⟩
  have d8 : (12 : Int32) ≤ nI d ↔ 12 ≤ d := nI_leq (a := 12) (by omega) (by omega)
  by_cases hb : d < 12 ∧ p + 1 < n ∧ tx (p + 1) = 40
  · obtain ⟨hd8, hp1, h40⟩ := hb
    have q40 : qpk K1 = 40 := by rw [rj1.pk hp1, h40]; rfl
    obtain ⟨K2, hK2⟩ : ∃ K2 : cp_K, K2 = kI K1 21 2 (nI (p + 2)) := ⟨_, rfl⟩
    have hq : qtk K1 40 = K2 := by rw [qtk_eq (p := 0) q40, rj1.1.1, nI_1, hK2]
    have k12 : ∀ a b, KRX a b K1 K2 := fun a b => by rw [hK2]; exact KRX_at
    have n2 : K2.1.1 = K.1.1 + 1 := by rw [hK2]; exact n11
    have i2 : ∀ x g, x ≠ 21 → K2.2.1 x g = K1.2.1 x g := fun x g hx => by rw [hK2, kI_i, cp_up_ne hx]
    have rr2 : ∀ x g, K2.2.2.1 x g = K1.2.2.1 x g := fun x g => by rw [hK2]; rfl
    obtain ⟨S2, hS2⟩ : ∃ S2 : cp_S, S2 = pshS (pshS (cntS (popS S1 l.length) n1 (nI 1)) l.length 212 (nI n1) (nI d)) (l.length + 1) 210 (nI (d + 1)) 0 := ⟨_, rfl⟩
    have ps2 : PS S2 ([] ++ (210, nI (d + 1), 0) :: ((212, nI n1, nI d) :: l)) (n1 + 1) rf := by rw [hS2]; exact PS.push (l := (212, nI n1, nI d) :: l) (PS.push (PS.cnt (PS.pop ps1)))
    have f12 : RFX rf (n1 + 1) l.length n1 S1 S2 := by
      rw [hS2]
      exact ((pop_spo.rfx (n1 := n1 + 1) (len := l.length) (i0 := n1)).trans (cnt_rfx (m := n1 + 1) (len := l.length)) (Nat.le_refl _) (Nat.le_refl _) (Or.inl rfl)).trans ((psh_rfx (m := n1 + 1) (i0 := n1) (Nat.le_refl _)).trans (psh_rfx (m := n1 + 1) (i0 := n1) (Nat.le_succ _)) (Nat.le_refl _) (Nat.le_refl _) (Or.inl rfl)) (Nat.le_refl _) (Nat.le_refl _) (Or.inl rfl)
    have c2 : S2.2 41 n1 = nI 1 := by rw [hS2, psh_2 (by omega), psh_2 (by omega), cnt_at, if_pos rfl]
    have rd2 : ∀ r Sx, RD X n r Sx (p + 2) S2 → RD X n r Sx (p + 1) S1 := fun r Sx w => rd_mcode ps1 (by omega) hp1 r5 (by rw [(rj1.2.2.2.1 _ hp1).2.2, h40]) hd8 (by omega) (by rw [← hS2]; exact w)
    have pieces : ∀ (r : Int32) (K' : cp_K), JC (12 + 6 * f) m_Q_readPieces (fun _ => .inl (some (.int r))) K' 3 (LQC K.1.1 (d + 1) 1) (fun _ => []) K2 → KC (12 + 6 * f) m_Q_readPieces (fun G => [.ref (cp_b G + 21), va_rf (kr G K.1.1), .int 3, .int (nI (d + 1)), .int 41]) (qtk K1 40) (fun _ => some (.int r)) K' := fun r K' w => by
      rw [hq]
      rw [show 12 + 6 * f = 4 + 6 * f + 8 by omega] at w ⊢
      exact c_Q_readPieces (D := 4 + 6 * f) w
    have ll : ((212, nI n1, nI d) :: l : List cp_I).length = l.length + 1 := List.length_cons
    by_cases hp2 : p + 2 = n
    · have rj2 : RJ tx n rf K2 S2 ([] ++ (210, nI (d + 1), 0) :: ((212, nI n1, nI d) :: l)) n (n1 + 1) := rj1.mv (k12 0 0) f12 ps2 (by rw [hK2, kI_i, va_up_at, va_up_at, hp2]) (Nat.le_refl _) ⟨by omega, by omega⟩ (rj1.2.2.2.2.eq (fun x hx => f12.2.2.2.1 x hx) (by omega)) (by omega)
      have pw : JC (12 + 6 * f) m_Q_readPieces (fun _ => .inl (some (.int 0))) K2 3 (LQC K.1.1 (d + 1) 1) (fun _ => []) K2 := by
        rw [show 12 + 6 * f = 4 + 6 * f + 8 by omega]
        exact b_Q_readPieces_3 (D := 4 + 6 * f) ⟨fun h => absurd h (by decide), fun _ => ⟨0, K2, (c_Q_withPiece (D := 2) ⟨fun _ => ⟨0, K2, (pieceC_end rj2).mono (by omega), fun h => absurd rfl h, fun _ => ⟨rfl, rfl⟩⟩, fun _ => ⟨rfl, rfl⟩⟩).mono (by omega), fun h => absurd rfl h, fun _ => ⟨rfl, rfl⟩⟩⟩
      refine Or.inl ⟨K2, S2, n, ka 0 K2 (rap 0 K2 ⟨fun h => absurd (d8.mp h) (by omega), fun _ => ⟨fun _ => ⟨0, K2, pieces 0 K2 pw, fun _ => ⟨rfl, rfl⟩, fun h => absurd rfl h⟩, fun h => absurd q40 h⟩⟩), rj2.1.1, ⟨by omega, Nat.le_refl _⟩, bck _ _ (rd2 _ _ ?_), k01.trans (k12 K.1.1 K.1.1) (Or.inl rfl) (Or.inl rfl), f01.trans f12 (by omega) (Nat.le_refl _) (Or.inl rfl), by rw [n2]; omega⟩
      rw [hp2]
      exact rd_end_no ps2 (by rw [List.nil_append, List.length_cons, ll]; omega) r5 List.mem_cons_self nm210
    · obtain ⟨S3, ps3, sp3, rd3⟩ := rd_code (X := X) (p := p + 2) ps2 (by rw [List.nil_append, List.length_cons, ll]; omega) (by omega) r5 (fun j hj => by cases hj)
      have f13 : RFX rf (n1 + 1) l.length n1 S1 S3 := f12.trans (sp3.rfx (n1 := n1 + 1) (len := l.length) (i0 := n1)) (Nat.le_refl _) (Nat.le_refl _) (Or.inl rfl)
      have rj3 : RJ tx n rf K2 S3 ((212, nI n1, nI d) :: l) (p + 2) (n1 + 1) := rj1.mv (k12 0 0) f13 ps3 (by rw [hK2, kI_i, va_up_at, va_up_at]) (by omega) ⟨by omega, by omega⟩ (rj1.2.2.2.2.eq (fun x hx => f13.2.2.2.1 x hx) (by omega)) (by omega)
      have f03 : RFX rf n1 l.length n1 S S3 := f01.trans f13 (by omega) (Nat.le_refl _) (Or.inl rfl)
      have k02 : KRX K.1.1 K.1.1 K K2 := k01.trans (k12 K.1.1 K.1.1) (Or.inl rfl) (Or.inl rfl)
      rcases hA (by omega) d K2 S3 l (p + 2) (n1 + 1) K.1.1 K2.1.1 n1 (by omega) rj3 (by omega) hl (by rw [sp3.2]; exact c2) ⟨r7, by omega⟩ ⟨(k12 0 0).nd nd1, by rw [i2 _ _ (by omega), w3]; rfl⟩ (Or.inl ⟨by rw [rr2]; exact wr 5, rfl⟩) ⟨fun _ => by rw [rr2]; exact wr 5, fun _ => rfl⟩ with ⟨K', S', p', g1, g2, g3, g4, g5, g6, g7⟩ | ⟨K', S', p', n1', m, qf, g1, g2, g3, g4, ⟨g5, g6, g7, g8⟩, ⟨g9, -⟩, g10, g11, g12, g15, g16⟩
      · exact Or.inl ⟨K', S', p', ka 0 K' (rap 0 K' ⟨fun h => absurd (d8.mp h) (by omega), fun _ => ⟨fun _ => ⟨0, K', pieces 0 K' g1, fun _ => ⟨rfl, rfl⟩, fun h => absurd rfl h⟩, fun h => absurd q40 h⟩⟩), g2, ⟨by omega, g3.2⟩, bck _ _ (rd2 _ _ (rd3 _ _ g4)), k02.trans g5 (Or.inl rfl) (Or.inr (by omega)), f03.trans g6 (by omega) (Nat.le_refl _) (Or.inl rfl), by omega⟩
      · have le := g11.1
        have e0 : ∀ g, g ≠ 3 → K'.2.1 K.1.1 g = K1.2.1 K.1.1 g := fun g hg => by rw [g11.2.2.2.1 K.1.1 (by omega) (by omega) g (Or.inr hg), i2 _ _ (by omega)]
        have z39 : S'.2 39 n1 = 5 := by rw [g12.2.2.1 39 (by omega) (by omega) n1 (by omega) (Or.inr (by decide)), f13.2.2.1 39 (by omega) (by omega) n1 (by omega) (Or.inr (by decide))]; exact s39
        have z40 : S'.2 40 n1 = nI (tx p - 65) := by rw [g12.2.2.1 40 (by omega) (by omega) n1 (by omega) (Or.inr (by decide)), f13.2.2.1 40 (by omega) (by omega) n1 (by omega) (Or.inr (by decide))]; exact s40
        have z42 : S'.2 42 (n1 - rf) = nI p := by rw [g12.2.2.2.1 _ (by omega), f13.2.2.2.1 _ (by omega)]; exact s42
        rw [Nat.zero_add] at g7 g8
        refine Or.inr ⟨K', S', p', n1', [], K.1.1, ka _ K' (rap _ K' ⟨fun h => absurd (d8.mp h) (by omega), fun _ => ⟨fun _ => ⟨1, K', pieces 1 K' g1, fun h => absurd h (by decide), fun _ => ⟨rfl, rfl⟩⟩, fun h => absurd q40 h⟩⟩), fun r Sx w => bck _ _ (rd2 _ _ (rd3 _ _ (g2 r Sx w))), g3, JPK.nil, ⟨g11.nd ((k12 0 0).nd nd1), ⟨Nat.le_refl _, by omega⟩, by rw [e0 2 (by decide), w2, r1, z42], Or.inr (Or.inr (Or.inr (Or.inl ⟨by rw [e0 0 (by decide)]; exact w0, z39, tx p - 65, m, by omega, by omega, ?_, z40, g7, g8, ?_⟩)))⟩, ?_, k02.trans g11 (Or.inl rfl) (Or.inr (by omega)), f03.trans g12 (by omega) (Nat.le_refl _) (Or.inl rfl), by omega, by omega⟩
        · rw [e0 1 (by decide), w1]; congr 1; omega
        · rw [g9 rfl]
          rw [n2] at g4
          exact g4
        · rw [g11.2.2.2.2.2.1 K.1.1 (by omega) 6 (Or.inr ⟨by decide, by decide⟩) (Or.inl (by omega)), rr2]
          exact wr 6
  · refine Or.inr ⟨K1, S1, p + 1, n1 + 1, [(211, nI n1, nI d)], K.1.1, ka _ K1 (rap _ K1 ⟨fun _ => ⟨rfl, rfl⟩, fun h8 => ⟨fun q40 => ?_, fun _ => ⟨rfl, rfl⟩⟩⟩), fun r Sx w => bck _ _ w, rj1, ⟨Nat.le_refl _, fun j hj => ?_⟩, ⟨nd1, ⟨Nat.le_refl _, by omega⟩, by rw [w2, r1, s42], Or.inr (Or.inr (Or.inr (Or.inl ⟨w0, s39, tx p - 65, 0, by omega, by omega, by rw [w1]; congr 1; omega, s40, w3, s41, wr 4, rfl, by omega⟩)))⟩, wr 6, k01, f01, by omega, by omega⟩
    · exfalso
      have hd8 : d < 12 := by
        by_cases h : 12 ≤ d
        · exact absurd (d8.mpr h) h8
        · omega
      by_cases hp1 : p + 1 < n
      · rw [rj1.pk hp1] at q40
        have hc1 := (r10 (p + 1) hp1).1
        exact hb ⟨hd8, hp1, (nI_ch (a := 40) (by omega) (by omega)).mp q40⟩
      · have : p + 1 = n := by omega
        rw [this] at rj1
        rw [rj1.pk0] at q40
        exact absurd q40 (by decide)
    · rw [List.mem_singleton] at hj
      subst hj
      refine ⟨Or.inr (Or.inl rfl), fun hp1 => Or.inr (Or.inl ⟨rfl, ?_⟩)⟩
      by_cases h : tx (p + 1) = 40
      · refine Or.inr ?_
        have : d = 12 := by
          by_cases hd8 : d < 12
          · exact absurd ⟨hd8, hp1, h⟩ hb
          · omega
        rw [this]; rfl
      · have hc1 := (r10 (p + 1) hp1).1
        exact Or.inl (nI_cc (a := 40) (by omega) (by omega) h)
end CPCE2
