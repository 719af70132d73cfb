/-! ===== reading: arguments and letters, both sides ===== -/
section CPR6
variable {X : Int32 × Int32 × Int32} {tx : Nat → Nat} {n rf f : Nat}
theorem SPO.plo {S T : cp_S} (h : SPO S T) : ∀ q x, T.2 q x = S.2 q x := fun q x => by rw [h.2]
/-- one argument of the list, and what comes then -/
theorem al_step (hP : PJ X tx n rf f) {t : Nat} (ht : t ≤ 5) (ih : t < 5 → AL X tx n rf f (t + 1)) : AL X tx n rf f t := by
  intro d o K S l p n1 q0 ql i0 hdf ho rj hp hl hc ⟨hi1, hi2⟩ ⟨hq0, hq3⟩ hlast
  obtain ⟨⟨r1, r2, r3, r4⟩, ps, ⟨r5, r6, r7, r8, r9⟩, r10, r11⟩ := id rj
  have q0lt := hq0.2.1
  have q086 := hq0.1
  have hll : ((202, nI i0, nI (2 * d + o)) :: l : List cp_I).length = l.length + 1 := List.length_cons
  -- the class: withPiece, the loop
  have wp : ∀ (r : Nat) (T1 : cp_K), KC (10 + 4 * f) m_Q_piece (fun G => [.ref (cp_b G + 21), .int (nI (2 - o)), .int (nI (d + 1))]) K (fun G => some (va_rf (kr G r))) T1 → ∀ (r' : Nat) (K' : cp_K), ((¬ r = 0 → nd T1 q0 9 ∧ (¬ T1.2.2.1 q0 5 = 0 → nd T1 (T1.2.2.1 q0 5) 9) ∧ r' = q0 ∧ K' = nadd T1 q0 r) ∧ (r = 0 → r' = 0 ∧ K' = T1)) → KC (11 + 4 * f) m_Q_withPiece (fun G => [.ref (cp_b G + 21), va_rf (kr G q0), .int (nI (2 - o)), .int (nI (d + 1))]) K (fun G => some (va_rf (kr G r'))) K' := fun r T1 kc r' K' w => (c_Q_withPiece (D := 3 + 4 * f) ⟨fun _ => ⟨r, T1, kc.mono (by omega), fun h => by obtain ⟨a1, a2, a3, a4⟩ := w.1 h; exact ⟨a1, a2, by rw [a3], a4⟩, fun h => by obtain ⟨a1, a2⟩ := w.2 h; exact ⟨by rw [a1], a2⟩⟩, fun h => absurd h (by omega)⟩).mono (by omega)
  rcases hP (d + 1) o K S _ p n1 (by omega) (by omega) ho rj hp (by rw [hll]; omega) with ⟨K1, S1, p1, a1, a2, a3, a4, a5, a6, a7⟩ | ⟨K1, S1, p1, n11, jk, a1, a2, a3, ⟨a4, a4'⟩, a5, a6, a7, a8, a9, a10, a11⟩
  · -- no argument
    refine Or.inl ⟨K1, S1, p1, b_Q_readPieces_3 (D := 4 + 4 * f) ⟨fun h => absurd h (nI_nlt (a := 6) (b := t + 1) (by omega) (by omega)), fun _ => ⟨0, K1, (wp 0 K1 a1 0 K1 ⟨fun h => absurd rfl h, fun _ => ⟨rfl, rfl⟩⟩).mono (by omega), fun h => absurd rfl h, fun _ => ⟨rfl, rfl⟩⟩⟩, a2, a3, a4, ?_, ?_, a7⟩
    · exact KRX.trans KRX.refl a5 (Or.inr (Nat.le_refl _)) (Or.inr (Nat.le_refl _))
    · exact a6.wk (Nat.le_refl _) (by rw [hll]; omega) (Or.inr (Nat.le_refl _))
  · -- an argument
    obtain ⟨⟨b1, b2, b3, b4⟩, ps1, ⟨b5, b6, b7, b8, b9⟩, b10, b11⟩ := id a3
    obtain ⟨lt1, lt2⟩ := RTR.lt _ _ _ _ _ a5
    have e5 : K1.2.2.1 q0 5 = K.2.2.1 q0 5 := a7.2.2.2.2.2.1 q0 q0lt 5 (Or.inl (by omega)) (Or.inl (by omega))
    have e4 : K1.2.2.1 q0 4 = K.2.2.1 q0 4 := a7.2.2.2.2.2.1 q0 q0lt 4 (Or.inl (by omega)) (Or.inl (by omega))
    have e3 : K1.2.1 q0 3 = nI t := by rw [a7.2.2.2.1 q0 q0lt (by omega) 3 (Or.inl (by omega))]; exact hq3
    have hlast1 : K1.2.2.1 q0 5 = 0 ∨ (K1.2.2.1 q0 5 = ql ∧ ql ≠ q0) := by
      rw [e5]
      rcases hlast with ⟨-, h, -⟩ | ⟨-, h, h', -⟩
      · exact Or.inl h
      · exact Or.inr ⟨h, by omega⟩
    have qlle : ql ≤ K.1.1 := by
      rcases hlast with ⟨-, -, h⟩ | ⟨-, -, -, h⟩
      · omega
      · have := h.2.1; omega
    have nq1 : nd K1 q0 9 := a7.nd hq0
    have nql1 : ¬ K1.2.2.1 q0 5 = 0 → nd K1 (K1.2.2.1 q0 5) 9 := fun h => by
      rw [e5] at h ⊢
      rcases hlast with ⟨-, h', -⟩ | ⟨-, h', -, h''⟩
      · exact absurd h' h
      · rw [h']; exact a7.nd h''
    obtain ⟨K2, hK2⟩ : ∃ K2 : cp_K, K2 = nadd K1 q0 K.1.1 := ⟨_, rfl⟩
    obtain ⟨qx, hqx, hqx2, hqx3⟩ : ∃ qx, (qx = ql ∨ K.1.1 ≤ qx) ∧ (qx < K.1.1 ∨ K1.1.1 ≤ qx) ∧ (K1.2.2.1 q0 5 = 0 ∨ (K1.2.2.1 q0 5 = qx ∧ qx ≠ q0)) := by
      rcases hlast with ⟨-, h, -⟩ | ⟨-, h, h', h''⟩
      · exact ⟨K1.1.1, Or.inr (by omega), Or.inr (Nat.le_refl _), Or.inl (e5.trans h)⟩
      · exact ⟨ql, Or.inl rfl, Or.inl h''.2.1, Or.inr ⟨e5.trans h, by omega⟩⟩
    have kx2 : KRX q0 qx K1 K2 := by rw [hK2]; exact KRX_nadd nq1 hqx3
    have n2 : K2.1.1 = K1.1.1 := by rw [hK2, na_n]
    have k02 : KRX q0 ql K K2 := (KRX.trans (KRX.refl (q0 := q0) (ql := ql)) a7 (Or.inr (Nat.le_refl _)) (Or.inr (Nat.le_refl _))).trans kx2 (Or.inl rfl) hqx
    have c3 : K2.2.1 q0 3 = nI (t + 1) := by rw [hK2, na_ip, if_pos rfl, e3, nI_1]
    have c5 : K2.2.2.1 q0 5 = K.1.1 := by rw [hK2, na_rp (by rcases hlast1 with h | h; exact Or.inr h; exact Or.inl (by rw [h.1]; exact h.2)), if_pos rfl]
    have c4 : (t = 0 → K2.2.2.1 q0 4 = K.1.1) ∧ (0 < t → K2.2.2.1 q0 4 = K.2.2.1 q0 4 ∧ K2.2.2.1 ql 6 = K.1.1) := by
      rcases hlast with ⟨h1, h2, h3⟩ | ⟨h1, h2, h3, h4⟩
      · refine ⟨fun _ => ?_, fun h => absurd h (by omega)⟩
        rw [hK2, na_rp (Or.inr (e5.trans h2)), if_neg (by decide), if_pos rfl, if_pos (e5.trans h2)]
      · have l86 := h4.1
        have hne : ¬ K1.2.2.1 q0 5 = 0 := by rw [e5, h2]; omega
        have hnq : K1.2.2.1 q0 5 ≠ q0 := by rw [e5, h2]; omega
        refine ⟨fun h => absurd h (by omega), fun _ => ⟨?_, ?_⟩⟩
        · rw [hK2, na_rp (Or.inl hnq), if_neg (by decide), if_pos rfl, if_neg hne, e4]
        · have := na_rl (K := K1) (p := q0) (r := K.1.1) (f := 6) hne hnq
          rw [if_pos rfl, e5, h2] at this
          rw [hK2]; exact this
    have rj2 : RJ tx n rf K2 S1 (jk ++ (202, nI i0, nI (2 * d + o)) :: l) p1 n11 := a3.mv kx2 (RFX.refl (n1 := n11) (len := 0) (i0 := 0)) ps1 (by rw [kx2.2.2.2.1 21 (by omega) |> fun _ => (show K2.2.1 21 2 = K1.2.1 21 2 by rw [hK2, na_i (by omega)])]; exact b1) b6 ⟨b7, b8⟩ b11 (by omega)
    have cnt1 : S1.2 41 i0 = nI (t + 1) := by rw [a8.2.2.1 41 (by omega) (by omega) i0 hi2 (Or.inl (by omega))]; exact hc
    have kwp : KC (11 + 4 * f) m_Q_withPiece (fun G => [.ref (cp_b G + 21), va_rf (kr G q0), .int (nI (2 - o)), .int (nI (d + 1))]) K (fun G => some (va_rf (kr G q0))) K2 := wp K.1.1 K1 a1 q0 K2 ⟨fun _ => ⟨nq1, nql1, rfl, hK2⟩, fun h => absurd h (by omega)⟩
    have loop : ∀ (r : Int32) (K' : cp_K), (¬ qpk K2 = 41 → JC (4 + 4 * f + 8) m_Q_readPieces (fun _ => .inl (some (.int r))) K' 3 (LQ q0 o (d + 1) 41 (t + 2)) (fun _ => []) K2) → (qpk K2 = 41 → r = 1 ∧ K' = qtk K2 41) → JC (4 + 4 * f + 8) m_Q_readPieces (fun _ => .inl (some (.int r))) K' 3 (LQ q0 o (d + 1) 41 (t + 1)) (fun _ => []) K := fun r K' w1 w2 => by
      refine b_Q_readPieces_3 (D := 4 + 4 * f) ⟨fun h => absurd h (nI_nlt (a := 6) (b := t + 1) (by omega) (by omega)), fun _ => ⟨q0, K2, kwp.mono (by omega), fun _ => ⟨rj2.1.2.2.1, fun h => ?_, fun h => ⟨fun h0 => absurd h0 (by decide), fun _ => ⟨fun h1 => absurd h1 (ife1 h), fun _ => ?_⟩⟩⟩, fun h => absurd h (by omega)⟩⟩
      · rw [nI_1]; exact w1 h
      · obtain ⟨e1, e2⟩ := w2 h
        rw [e1, e2]; exact ⟨rfl, rfl⟩
    have rfx1 : RFX rf n1 l.length i0 S S1 := a8.wk (Nat.le_refl _) (by rw [hll]; omega) (Or.inr (Nat.le_refl _))
    have fail : ∀ (p' : Nat) (S' : cp_S), p' = p1 → RD X n (some (.int (nI p'))) S' p1 S1 → SPO S1 S' → JC (4 + 4 * f + 8) m_Q_readPieces (fun _ => .inl (some (.int 0))) K2 3 (LQ q0 o (d + 1) 41 (t + 2)) (fun _ => []) K2 → ¬ qpk K2 = 41 → (∃ (K' : cp_K) (S' : cp_S) (p' : Nat), JC (4 + 4 * f + 8) m_Q_readPieces (fun _ => .inl (some (.int 0))) K' 3 (LQ q0 o (d + 1) 41 (t + 1)) (fun _ => []) K ∧ K'.2.1 21 2 = nI p' ∧ (p ≤ p' ∧ p' ≤ n) ∧ BTK X n (some (.int (nI p'))) S' S p (2 * (d + 1) + o) ∧ KRX q0 ql K K' ∧ RFX rf n1 l.length i0 S S' ∧ K'.1.1 ≤ K.1.1 + (p' - p)) := fun p' S' e w1 w2 w3 w4 => ⟨K2, S', p', loop 0 K2 (fun _ => w3) (fun h => absurd h w4), by rw [e]; exact rj2.1.1, by omega, a2 _ _ w1, k02, rfx1.trans (w2.rfx (n1 := n1) (len := l.length) (i0 := i0)) (Nat.le_refl _) (Nat.le_refl _) (Or.inl rfl), by rw [n2]; omega⟩
    have hlen : (jk ++ (202, nI i0, nI (2 * d + o)) :: l : List cp_I).length ≤ 400 := by rw [List.length_append, List.length_cons]; omega
    by_cases hpn : p1 = n
    · -- the end of the text
      subst hpn
      have k0 := rj2.pk0
      have n41 : ¬ qpk K2 = 41 := by rw [k0]; decide
      refine Or.inl (fail p1 S1 rfl (rd_end_no ps1 hlen b5 (i := (202, nI i0, nI (2 * d + o))) (List.mem_append.mpr (Or.inr List.mem_cons_self)) ?_) ⟨fun _ _ => rfl, rfl⟩ ?_ n41)
      · rintro (h | h | h | ⟨h, -⟩)
        · exact absurd (show (202 : Int32) = 201 from h) (by decide)
        · exact absurd (show (202 : Int32) = 211 from h) (by decide)
        · exact absurd (show (202 : Int32) = 215 from h) (by decide)
        · exact absurd (show (202 : Int32) = 218 from h) (by decide)
      · refine b_Q_readPieces_3 (D := 4 + 4 * f) ⟨fun _ => ⟨rfl, rfl⟩, fun _ => ⟨0, K2, (c_Q_withPiece (D := 1) ⟨fun _ => ⟨0, K2, piece_end ho rj2, fun h => absurd rfl h, fun _ => ⟨rfl, rfl⟩⟩, fun _ => ⟨rfl, rfl⟩⟩).mono (by omega), fun h => absurd rfl h, fun _ => ⟨rfl, rfl⟩⟩⟩
    · have hp1 : p1 < n := by omega
      have hc200 : tx p1 < 200 := by have := (b10 p1 hp1).1; omega
      have pk1 := rj2.pk hp1
      have ctx := (b10 p1 hp1).2.2
      by_cases h41 : tx p1 = 41
      · -- the bracket is closed
        obtain ⟨T, t1, t2, t3⟩ := rd_close (X := X) ps1 hlen hp1 b5 (by rw [ctx, h41]) (fun j hj => by have := (a4' j hj).2 hp1; rw [h41] at this; exact this)
        have q41 : qpk K2 = 41 := by rw [pk1, h41]; rfl
        obtain ⟨K3, hK3⟩ : ∃ K3 : cp_K, K3 = kI K2 21 2 (nI (p1 + 1)) := ⟨_, rfl⟩
        have hq : qtk K2 41 = K3 := by rw [qtk_eq (p := 0) q41, rj2.1.1, nI_1, hK3]
        have k23 : ∀ qy, KRX q0 qy K2 K3 := fun qy => by rw [hK3]; exact KRX_at
        have k03 := k02.trans (k23 ql) (Or.inl rfl) (Or.inl rfl)
        have rfx2 : RFX rf n1 l.length i0 S T := rfx1.trans (t2.rfx (n1 := n1) (len := l.length) (i0 := i0)) (Nat.le_refl _) (Nat.le_refl _) (Or.inl rfl)
        have n3 : K3.1.1 = K1.1.1 := by rw [hK3]; exact n2
        have r3e : ∀ x g, K3.2.2.1 x g = K2.2.2.1 x g := fun x g => by rw [hK3]; rfl
        have i3e : ∀ x g, x ≠ 21 → K3.2.1 x g = K2.2.1 x g := fun x g hx => by rw [hK3, kI_i, cp_up_ne hx]
        refine Or.inr ⟨K3, T, p1 + 1, n11, 1, loop 1 K3 (fun h => absurd q41 h) (fun _ => ⟨rfl, hq.symm⟩), fun r Sx w => a2 _ _ (t3 _ _ w), rj.mv k03 rfx2 t1 (by rw [hK3, kI_i, va_up_at, va_up_at]) (by omega) ⟨b7, by omega⟩ (b11.eq (fun x _ => by rw [t2.2]) (by omega)) (by omega), ⟨rfl, n11, K1.1.1, ?_, ?_, rfl, n3.symm⟩, ⟨Nat.le_refl _, by omega, by rw [i3e _ _ (by omega)]; exact c3, by rw [t2.2]; exact cnt1⟩, ⟨fun h => by rw [r3e]; exact c4.1 h, fun h => ⟨by rw [r3e]; exact (c4.2 h).1, by rw [r3e]; exact (c4.2 h).2⟩⟩, k03, rfx2, ⟨p1, rfl, a9.loc (fun x _ _ => by rw [t2.2]; exact ⟨rfl, rfl⟩)⟩, by rw [n3]; omega, by omega⟩
        · refine RTR.loc (K := K1) (b := S1.2) (by omega) _ _ _ _ _ a5 (fun x x1 x2 => ?_) (fun x _ _ => by rw [t2.2]; exact ⟨rfl, rfl, rfl, rfl⟩)
          have e := kx2.trans (k23 qx) (Or.inl rfl) (Or.inl rfl)
          exact ⟨fun g => e.2.2.2.1 x (by omega) (by omega) g (Or.inl (by omega)), e.2.1 x (by omega), e.2.2.2.2.2.1 x (by omega) 4 (Or.inl (by omega)) (Or.inr (by decide)), fun hx => e.2.2.2.2.2.1 x (by omega) 6 (Or.inl (by omega)) (Or.inl (by omega))⟩
        · rw [r3e, kx2.2.2.2.2.2.1 K.1.1 (by omega) 6 (Or.inl (by omega)) (Or.inl (by omega))]
          exact a6
      · have n41 : ¬ qpk K2 = 41 := by rw [pk1]; exact nI_cc (a := 41) hc200 (by omega) h41
        by_cases ht5 : t = 5
        · obtain ⟨T, t1, t2⟩ := rd_full (X := X) ps1 hlen hp1 b5 ctx hc200 h41 (fun j hj => (a4' j hj).2 hp1) (by omega) (by rw [cnt1, ht5])
          refine Or.inl (fail p1 T rfl t2 t1 (b_Q_readPieces_3 (D := 4 + 4 * f) ⟨fun _ => ⟨rfl, rfl⟩, fun h => absurd ?_ h⟩) n41)
          rw [ht5]; decide
        · obtain ⟨T, t1, t2, t3, t4⟩ := rd_next (X := X) (t := t + 1) ps1 hlen hp1 b5 ctx hc200 h41 (fun j hj => (a4' j hj).2 hp1) (by omega) (by omega) cnt1
          rw [show 2 * d + o + 2 = 2 * (d + 1) + o by omega] at t4
          have rfx2 : RFX rf n1 l.length i0 S T := rfx1.trans t2 (by omega) (Nat.le_refl _) (Or.inl rfl)
          have rjT : RJ tx n rf K2 T ((202, nI i0, nI (2 * d + o)) :: l) p1 n11 := rj2.mv (KRX.refl (q0 := 0) (ql := 0)) t2 t1 rj2.1.1 b6 ⟨b7, b8⟩ (b11.eq (fun x hx => t2.2.2.2.1 x hx) (Nat.le_refl _)) (by omega)
          have nc2 : nd K2 K.1.1 9 := ⟨by omega, by omega, by rw [kx2.2.1 _ (by omega)]; exact a7.2.2.1 _ (Nat.le_refl _) (by omega)⟩
          rcases ih (by omega) d o K2 T l p1 n11 q0 K.1.1 i0 hdf ho rjT hp1 hl t3 ⟨hi1, by omega⟩ ⟨kx2.nd nq1, c3⟩ (Or.inr ⟨by omega, c5, by omega, nc2⟩) with ⟨K', S', p', g1, g2, g3, g4, g5, g6, g7⟩ | ⟨K', S', p', n1', m, g1, g2, g3, g4, ⟨g5, g6, g7, g8⟩, ⟨-, g10⟩, g11, g12, ⟨pe, g13, g14⟩, g15, g16⟩
          · refine Or.inl ⟨K', S', p', loop 0 K' (fun _ => g1) (fun h => absurd h n41), g2, ⟨by omega, g3.2⟩, a2 _ _ (t4 _ _ g4), k02.trans g5 (Or.inl rfl) (Or.inr (Nat.le_refl _)), rfx2.trans g6 (by omega) (Nat.le_refl _) (Or.inl rfl), by omega⟩
          · obtain ⟨g10a, g10b⟩ := g10 (by omega)
            have k0' := k02.trans g11 (Or.inl rfl) (Or.inr (Nat.le_refl _))
            have sx' : RFX rf n11 l.length i0 S1 S' := t2.trans g12 (Nat.le_refl _) (Nat.le_refl _) (Or.inl rfl)
            rw [n2] at g4 g10b
            refine Or.inr ⟨K', S', p', n1', m + 1, loop 1 K' (fun _ => g1) (fun h => absurd h n41), fun r Sx w => a2 _ _ (t4 _ _ (g2 r Sx w)), g3, ⟨rfl, n11, K1.1.1, ?_, by rw [g10b]; exact g4⟩, ⟨by omega, by omega, by rw [g7]; congr 1; omega, by rw [g8]; congr 1; omega⟩, ⟨fun h => by rw [g10a]; exact c4.1 h, fun h => ⟨by rw [g10a]; exact (c4.2 h).1, ?_⟩⟩, k0', rfx2.trans g12 (by omega) (Nat.le_refl _) (Or.inl rfl), ⟨pe, g13, ?_⟩, by omega, by omega⟩
            · refine RTR.loc (K := K1) (b := S1.2) (by have := g11.1; omega) _ _ _ _ _ a5 (fun x x1 x2 => ⟨fun g => ?_, ?_, ?_, fun hx => ?_⟩) (fun x x1 x2 => ⟨sx'.2.2.1 39 (by omega) (by omega) x x2 (Or.inl (by omega)), sx'.2.2.1 40 (by omega) (by omega) x x2 (Or.inl (by omega)), sx'.2.2.1 41 (by omega) (by omega) x x2 (Or.inl (by omega)), sx'.2.2.2.1 _ (by omega)⟩)
              · rw [g11.2.2.2.1 x (by omega) (by omega) g (Or.inl (by omega)), kx2.2.2.2.1 x (by omega) (by omega) g (Or.inl (by omega))]
              · rw [g11.2.1 x (by omega), kx2.2.1 x (by omega)]
              · rw [g11.2.2.2.2.2.1 x (by omega) 4 (Or.inl (by omega)) (Or.inr (by decide)), kx2.2.2.2.2.2.1 x (by omega) 4 (Or.inl (by omega)) (Or.inr (by decide))]
              · rw [g11.2.2.2.2.2.1 x (by omega) 6 (Or.inl (by omega)) (Or.inl hx), kx2.2.2.2.2.2.1 x (by omega) 6 (Or.inl (by omega)) (Or.inl (by omega))]
            · have hql : ql < K.1.1 ∧ ql ≠ q0 := by
                rcases hlast with ⟨h1, -⟩ | ⟨-, -, h3, h4⟩
                · omega
                · exact ⟨h4.2.1, by omega⟩
              rw [g11.2.2.2.2.2.1 ql (by omega) 6 (Or.inl hql.2) (Or.inl (by omega))]
              exact (c4.2 h).2
            · exact (a9.loc (fun x x1 x2 => ⟨sx'.2.2.1 39 (by omega) (by omega) x x2 (Or.inl (by omega)), sx'.2.2.1 41 (by omega) (by omega) x x2 (Or.inl (by omega))⟩)).join g14
theorem al_0 (hP : PJ X tx n rf f) : AL X tx n rf f 0 := by
  have A5 : AL X tx n rf f 5 := al_step hP (by omega) (fun h => absurd h (by omega))
  have A4 : AL X tx n rf f 4 := al_step hP (by omega) (fun _ => A5)
  have A3 : AL X tx n rf f 3 := al_step hP (by omega) (fun _ => A4)
  have A2 : AL X tx n rf f 2 := al_step hP (by omega) (fun _ => A3)
  have A1 : AL X tx n rf f 1 := al_step hP (by omega) (fun _ => A2)
  exact al_step hP (by omega) (fun _ => A1)
end CPR6
