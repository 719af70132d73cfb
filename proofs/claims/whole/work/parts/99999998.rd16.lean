/-! ===== reading: the parts of a declaration, one after the other ===== -/
abbrev LPD (q0 t : Nat) : cp_G → List (Nat × Value) := fun G => [(0, .ref (cp_b G + 21)), (1, va_rf (kr G q0)), (2, .int (nI t))]
def PDL (X : Int32 × Int32 × Int32) (tx : Nat → Nat) (n rf t : Nat) : Prop := ∀ (K : cp_K) (S : cp_S) (p n1 q0 ql pk : Nat), RJ tx n rf K S [] p n1 → p < n → S.1 33 = nI pk → pk + (6 - t) ≤ 178 → (nd K q0 9 ∧ K.2.1 q0 3 = nI t) → LSP K q0 ql → (t = 0 ↔ K.2.2.1 q0 5 = 0) →
  (∃ (K' : cp_K) (S' : cp_S) (p' : Nat), JC 68 m_Q_readParts (fun _ => .inl (some (.int 0))) K' 13 (LPD q0 (t + 1)) (fun _ => []) K ∧ K'.2.1 21 2 = nI p' ∧ (p ≤ p' ∧ p' ≤ n) ∧ BPK X n (some (.int (nI p'))) S' S p t ∧ KRX q0 ql K K' ∧ RFY rf n1 0 pk S S' ∧ K'.1.1 ≤ K.1.1 + (p' - p) + (6 - t)) ∨
  ∃ (K' : cp_K) (S' : cp_S) (p' n1' m qe : Nat), JC 68 m_Q_readParts (fun _ => .inl (some (.int 1))) K' 13 (LPD q0 (t + 1)) (fun _ => []) K ∧ (∀ r Sx, RD X n r Sx p' S' → BPK X n r Sx S p t) ∧ RJ tx n rf K' S' [(206, 0, 0)] p' n1' ∧ RPD K' S'.2 rf 0 qe m pk n1 n1' K.1.1 K'.1.1 ∧ (1 ≤ m ∧ t + m ≤ 6 ∧ K'.2.1 q0 3 = nI (t + m) ∧ S'.1 33 = nI (pk + m)) ∧ ((t = 0 → K'.2.2.1 q0 4 = K.1.1) ∧ (0 < t → K'.2.2.1 q0 4 = K.2.2.1 q0 4 ∧ K'.2.2.1 ql 6 = K.1.1)) ∧ (K'.2.2.1 q0 5 = qe ∧ nd K' qe 9 ∧ K.1.1 ≤ qe) ∧ KRX q0 ql K K' ∧ RFY rf n1 0 pk S S' ∧ TV S'.2 p p' n1 n1' ∧ K'.1.1 ≤ K.1.1 + (p' - p) + (6 - t) ∧ p < p'
section CPPL
variable {X : Int32 × Int32 × Int32} {tx : Nat → Nat} {n rf : Nat}
theorem PRT.kept {K K2 : cp_K} {b b2 : Nat → Nat → Int32} {q pt i j a1 q0 qx : Nat} (h : PRT K b rf q pt i j a1) (k : KRX q0 qx K K2) (ha : a1 ≤ K.1.1) (h86 : 86 ≤ q) (hq : q0 < q ∨ a1 ≤ q0) (hx : qx = q ∨ qx < q ∨ a1 ≤ qx) (hb : ∀ x, i ≤ x → x < j → b2 39 x = b 39 x ∧ b2 40 x = b 40 x ∧ b2 41 x = b 41 x ∧ b2 42 (x - rf) = b 42 (x - rf)) (hp : ∀ g, 44 ≤ g → g ≤ 48 → b2 g pt = b g pt) : PRT K2 b2 rf q pt i j a1 := h.loc k.1 (fun x x1 x2 => ⟨fun f => k.2.2.2.1 x (by omega) (by omega) f (Or.inl (by omega)), k.2.1 x (by omega), k.2.2.2.2.2.1 x (by omega) 4 (Or.inl (by omega)) (Or.inr (by decide)), k.2.2.2.2.2.1 x (by omega) 5 (Or.inl (by omega)) (Or.inr (by decide)), fun hxq => k.2.2.2.2.2.1 x (by omega) 6 (Or.inl (by omega)) (Or.inl (by omega))⟩) hb hp
theorem pd_step {t : Nat} (ht : t ≤ 5) (ih : t < 5 → PDL X tx n rf (t + 1)) : PDL X tx n rf t := by
  intro K S p n1 q0 ql pk rj hp h33 hpk ⟨hq0, hq3⟩ hlast ht0
  obtain ⟨⟨r1, r2, r3, r4⟩, ps, ⟨r5, r6, r7, r8, r9⟩, r10, r11⟩ := id rj
  have q0lt := hq0.2.1
  have q086 := hq0.1
  have nlt : ¬ (6 : Int32) < nI (t + 1) := nI_nlt (a := 6) (b := t + 1) (by omega) (by omega)
  rcases pj_any (X := X) (a := t) rj hp (by simp) h33 (by omega) with ⟨K', S', p', a1, a2, a3, a4, a5, a6, a7⟩ | ⟨K1, S1, p1, n11, jk, a1, a2, a3, ⟨a4, a4'⟩, a5, a6, a7, a8, a9, a10, a11, a12⟩
  · refine Or.inl ⟨K', S', p', b_Q_readParts_13 (D := 60) ⟨fun h => absurd h nlt, fun _ => ⟨0, K', a1.mono (by omega), fun h => absurd rfl h, fun _ => ⟨rfl, rfl⟩⟩⟩, a2, a3, a4, KRX.trans KRX.refl a5 (Or.inr (Nat.le_refl _)) (Or.inr (Nat.le_refl _)), a6, by omega⟩
  · obtain ⟨⟨b1, b2, b3, b4⟩, ps1, ⟨b5, b6, b7, b8, b9⟩, b10, b11⟩ := id a3
    have lt1 := a5.lt
    have k1le := a8.1
    obtain ⟨⟨nq1, nql1⟩, k02, ⟨qx, hqx, kx2⟩, n2, c3, c5, c4, c46, c21⟩ := addK (c := K.1.1) a8 hq0 hlast
    obtain ⟨K2, hK2⟩ : ∃ K2 : cp_K, K2 = nadd K1 q0 K.1.1 := ⟨_, rfl⟩
    rw [← hK2] at k02 kx2 n2 c3 c5 c4 c46 c21
    have at2 : K2.2.1 21 2 = nI p1 := by rw [c21]; exact b1
    have rj2 : RJ tx n rf K2 S1 (jk ++ [(205, nI (t + 1), 0)]) p1 n11 := a3.mvz kx2 rfl ps1 at2 b6 ⟨b7, b8⟩ b11 (by omega)
    have nc2 : nd K2 K.1.1 9 := kx2.nd a5.1
    have loop : ∀ (r : Int32) (K' : cp_K), (qpk K2 = 62 → r = 1 ∧ K' = qtk K2 62) → (¬ qpk K2 = 62 → (t + 1 = 6 → r = 0 ∧ K' = K2) ∧ (¬ t + 1 = 6 → (¬ qpk K2 = 44 → r = 0 ∧ K' = K2) ∧ (qpk K2 = 44 → JC 68 m_Q_readParts (fun _ => .inl (some (.int r))) K' 13 (LPD q0 (t + 2)) (fun _ => []) (qtk K2 44)))) → JC 68 m_Q_readParts (fun _ => .inl (some (.int r))) K' 13 (LPD q0 (t + 1)) (fun _ => []) K := fun r K' w1 w2 => by
      refine b_Q_readParts_13 (D := 60) ⟨fun h => absurd h nlt, fun _ => ⟨K.1.1, K1, a1.mono (by omega), fun _ => ⟨nq1, nql1, b3, fun h => ?_, fun h => ?_⟩, fun h => absurd h (by omega)⟩⟩
      · rw [← hK2] at h ⊢
        by_cases e : qpk K2 = 62
        · exact absurd h (ife1 e)
        · obtain ⟨v1, v2⟩ := w2 e
          rw [qtk_ne e]
          refine ⟨fun h6 => ?_, fun h6 => ?_⟩
          · have : t + 1 = 6 := (nI_ch (a := 6) (by omega) (by omega)).mp h6
            obtain ⟨e1, e2⟩ := v1 this
            rw [e1, e2]; exact ⟨rfl, rfl⟩
          · have n6 : ¬ t + 1 = 6 := fun q => h6 (by rw [q]; rfl)
            obtain ⟨u1, u2⟩ := v2 n6
            by_cases e44 : qpk K2 = 44
            · refine ⟨fun _ => ?_, fun h => absurd h (ife1 e44)⟩
              have := u2 e44
              rw [nI_1]; exact this
            · refine ⟨fun h => absurd (ife0 e44) h, fun _ => ?_⟩
              obtain ⟨e1, e2⟩ := u1 e44
              rw [e1, e2, qtk_ne e44]; exact ⟨rfl, rfl⟩
      · rw [← hK2] at h ⊢
        by_cases e : qpk K2 = 62
        · obtain ⟨e1, e2⟩ := w1 e
          rw [e1, e2]; exact ⟨rfl, rfl⟩
        · exact absurd (ife0 e) h
    have hlen : (jk ++ [(205, nI (t + 1), 0)] : List cp_I).length ≤ 400 := by rw [List.length_append]; simp; omega
    have fail : ∀ (T : cp_S), ¬ qpk K2 = 62 → (¬ t + 1 = 6 → ¬ qpk K2 = 44) → STO 0 S1 T → RD X n (some (.int (nI p1))) T p1 S1 → (∃ (K' : cp_K) (S' : cp_S) (p' : Nat), JC 68 m_Q_readParts (fun _ => .inl (some (.int 0))) K' 13 (LPD q0 (t + 1)) (fun _ => []) K ∧ K'.2.1 21 2 = nI p' ∧ (p ≤ p' ∧ p' ≤ n) ∧ BPK X n (some (.int (nI p'))) S' S p t ∧ KRX q0 ql K K' ∧ RFY rf n1 0 pk S S' ∧ K'.1.1 ≤ K.1.1 + (p' - p) + (6 - t)) := fun T e62 e44 st w => ⟨K2, T, p1, loop 0 K2 (fun h => absurd h e62) (fun _ => ⟨fun _ => ⟨rfl, rfl⟩, fun h => ⟨fun _ => ⟨rfl, rfl⟩, fun h2 => absurd h2 (e44 h)⟩⟩), at2, ⟨by omega, b6⟩, a2 _ _ w, k02, a9.trans st.rfy (Nat.le_refl _) (Nat.le_refl _) (Nat.le_refl _), by omega⟩
    by_cases hpn : p1 = n
    · subst hpn
      have k0 := rj2.pk0
      exact Or.inl (fail S1 (by rw [k0]; decide) (fun _ => by rw [k0]; decide) ⟨fun _ _ => rfl, fun _ _ => rfl, fun _ _ _ _ _ => rfl⟩ (rd_end_no ps1 hlen b5 (i := (205, nI (t + 1), 0)) (List.mem_append.mpr (Or.inr List.mem_cons_self)) (nmy (w := 205) rfl (by decide) (by decide) (by decide) (by decide))))
    have hp1 : p1 < n := by omega
    have hc200 : tx p1 < 200 := by have := (b10 p1 hp1).1; omega
    have pk1 := rj2.pk hp1
    have ctx := (b10 p1 hp1).2.2
    obtain ⟨ra, rb⟩ := rd_after (X := X) ps1 hlen hp1 b5 ctx hc200 (fun j hj => (a4' j hj).2 hp1) (by omega)
    have pst : ∀ (K3 : cp_K) (b3 : Nat → Nat → Int32) qy, KRX q0 qy K2 K3 → (qy = K.1.1 ∨ K1.1.1 ≤ qy) → (∀ x, n1 ≤ x → x < n11 → b3 39 x = S1.2 39 x ∧ b3 40 x = S1.2 40 x ∧ b3 41 x = S1.2 41 x ∧ b3 42 (x - rf) = S1.2 42 (x - rf)) → (∀ g, 44 ≤ g → g ≤ 48 → b3 g pk = S1.2 g pk) → PRT K3 b3 rf K.1.1 pk n1 n11 K1.1.1 := fun K3 b3 qy k hy hb hpp => by
      have z := PRT.kept (K := K1) (K2 := K2) (b := S1.2) (b2 := S1.2) a5 kx2 (Nat.le_refl _) (by omega) (Or.inl (by omega)) (by omega) (fun _ _ _ => ⟨rfl, rfl, rfl, rfl⟩) (fun _ _ _ => rfl)
      exact PRT.kept z k (by omega) (by omega) (Or.inl (by omega)) (by omega) hb hpp
    by_cases h62 : tx p1 = 62
    · obtain ⟨T, t1, t2, t3⟩ := ra h62
      have q62 : qpk K2 = 62 := by rw [pk1, h62]; rfl
      obtain ⟨K3, hK3⟩ : ∃ K3 : cp_K, K3 = kI K2 21 2 (nI (p1 + 1)) := ⟨_, rfl⟩
      have hq : qtk K2 62 = K3 := by rw [qtk_eq (p := 0) q62, at2, nI_1, hK3]
      have k23 : ∀ x y, KRX x y K2 K3 := fun x y => by rw [hK3]; exact KRX_at
      have k03 := k02.trans (k23 q0 ql) (Or.inl rfl) (Or.inl rfl)
      have n3 : K3.1.1 = K1.1.1 := by rw [hK3]; exact n2
      have r3e : ∀ x g, K3.2.2.1 x g = K2.2.2.1 x g := fun x g => by rw [hK3]; rfl
      have i3e : ∀ x g, x ≠ 21 → K3.2.1 x g = K2.2.1 x g := fun x g hx => by rw [hK3, kI_i, cp_up_ne hx]
      have fy : RFY rf n1 0 pk S T := a9.trans t2.rfy (Nat.le_refl _) (Nat.le_refl _) (Nat.le_refl _)
      have e4 : (t = 0 → K3.2.2.1 q0 4 = K.1.1) ∧ (0 < t → K3.2.2.1 q0 4 = K.2.2.1 q0 4 ∧ K3.2.2.1 ql 6 = K.1.1) := ⟨fun h => by rw [r3e]; exact c4 (ht0.mp h), fun h => by rw [r3e, r3e]; exact c46 (fun q => by have := ht0.mpr q; omega)⟩
      refine Or.inr ⟨K3, T, p1 + 1, n11, 1, K.1.1, loop 1 K3 (fun _ => ⟨rfl, hq.symm⟩) (fun h => absurd q62 h), fun r Sx w => a2 _ _ (t3 _ _ w), rj.mvz k03 (fy.2.1 27 (by omega)) t1 (by rw [hK3, kI_i, va_up_at, va_up_at]) (by omega) ⟨b7, by omega⟩ (b11.eq (fun x _ => by rw [t2.2.1 42 (by omega)]) (by omega)) (by omega), ⟨n11, K1.1.1, ?_, fun _ => ⟨rfl, ?_⟩, fun h => absurd h (Nat.lt_irrefl _), rfl, n3.symm⟩, ⟨Nat.le_refl _, by omega, ?_, ?_⟩, e4, ⟨by rw [r3e]; exact c5, (k23 0 0).nd nc2, Nat.le_refl _⟩, k03, fy, ?_, by rw [n3]; omega, by omega⟩
      · exact pst K3 T.2 K1.1.1 (k23 _ _) (Or.inr (Nat.le_refl _)) (fun x _ _ => by rw [t2.2.1 39 (by omega), t2.2.1 40 (by omega), t2.2.1 41 (by omega), t2.2.1 42 (by omega)]; exact ⟨rfl, rfl, rfl, rfl⟩) (fun g g1 g2 => by rw [t2.2.1 g (by omega)])
      · rw [r3e, kx2.2.2.2.2.2.1 K.1.1 (by omega) 6 (Or.inl (by omega)) (Or.inl (by omega))]; exact a6
      · rw [i3e _ _ (by omega), c3, hq3, nI_1]
      · rw [t2.1 33 (by decide)]; exact a7
      · exact (a10.loc (fun x _ _ => by rw [t2.2.1 39 (by omega), t2.2.1 41 (by omega)]; exact ⟨rfl, rfl⟩)).wk (Nat.le_refl _) (by omega)
    · have e62 : ¬ qpk K2 = 62 := by rw [pk1]; exact nI_cc (a := 62) hc200 (by omega) h62
      obtain ⟨rc, rd⟩ := rb h62
      by_cases h44 : tx p1 = 44 ∧ t + 1 < 6
      · obtain ⟨T, t1, t2, t3⟩ := rc h44
        have q44 : qpk K2 = 44 := by rw [pk1, h44.1]; rfl
        obtain ⟨K3, hK3⟩ : ∃ K3 : cp_K, K3 = kI K2 21 2 (nI (p1 + 1)) := ⟨_, rfl⟩
        have hq : qtk K2 44 = K3 := by rw [qtk_eq (p := 0) q44, at2, nI_1, hK3]
        have k23 : ∀ x y, KRX x y K2 K3 := fun x y => by rw [hK3]; exact KRX_at
        have k03 := k02.trans (k23 q0 ql) (Or.inl rfl) (Or.inl rfl)
        have n3 : K3.1.1 = K1.1.1 := by rw [hK3]; exact n2
        have r3e : ∀ x g, K3.2.2.1 x g = K2.2.2.1 x g := fun x g => by rw [hK3]; rfl
        have i3e : ∀ x g, x ≠ 21 → K3.2.1 x g = K2.2.1 x g := fun x g hx => by rw [hK3, kI_i, cp_up_ne hx]
        have at3 : K3.2.1 21 2 = nI (p1 + 1) := by rw [hK3, kI_i, va_up_at, va_up_at]
        have fy : RFY rf n1 0 pk S T := a9.trans t2.rfy (Nat.le_refl _) (Nat.le_refl _) (Nat.le_refl _)
        have loop2 : ∀ (r : Int32) (K' : cp_K), JC 68 m_Q_readParts (fun _ => .inl (some (.int r))) K' 13 (LPD q0 (t + 2)) (fun _ => []) K3 → JC 68 m_Q_readParts (fun _ => .inl (some (.int r))) K' 13 (LPD q0 (t + 1)) (fun _ => []) K := fun r K' w => loop r K' (fun h => absurd h e62) (fun _ => ⟨fun h => absurd h (by omega), fun _ => ⟨fun h => absurd q44 h, fun _ => by rw [hq]; exact w⟩⟩)
        have nlt2 : ¬ (6 : Int32) < nI (t + 2) := nI_nlt (a := 6) (b := t + 2) (by omega) (by omega)
        by_cases hp2 : p1 + 1 = n
        · have rj3 : RJ tx n rf K3 T [(204, nI (t + 1), 0)] n n11 := rj.mvz k03 (fy.2.1 27 (by omega)) t1 (by rw [at3, hp2]) (Nat.le_refl _) ⟨b7, by omega⟩ (b11.eq (fun x _ => by rw [t2.2.1 42 (by omega)]) (by omega)) (by omega)
          refine Or.inl ⟨K3, T, n, loop2 0 K3 (b_Q_readParts_13 (D := 60) ⟨fun h => absurd h nlt2, fun _ => ⟨0, K3, (pj_end rj3).mono (by omega), fun h => absurd rfl h, fun _ => ⟨rfl, rfl⟩⟩⟩), rj3.1.1, ⟨by omega, Nat.le_refl _⟩, a2 _ _ (t3 _ _ ?_), k03, fy, by rw [n3]; omega⟩
          rw [hp2]
          exact rd_end_no t1 (by simp) b5 List.mem_cons_self (nmy (w := 204) rfl (by decide) (by decide) (by decide) (by decide))
        · have t1' := PS.pop t1
          have st2 : SPO T (popS T 0) := pop_spo
          have fy2 : RFY rf n1 0 pk S (popS T 0) := fy.trans st2.rfy (Nat.le_refl _) (Nat.le_refl _) (Nat.le_refl _)
          have rj3 : RJ tx n rf K3 (popS T 0) [] (p1 + 1) n11 := rj.mvz k03 (fy2.2.1 27 (by omega)) t1' at3 (by omega) ⟨b7, by omega⟩ (b11.eq (fun x _ => by rw [st2.2, t2.2.1 42 (by omega)]) (by omega)) (by omega)
          have rdn : ∀ o Sx, BPK X n o Sx (popS T 0) (p1 + 1) (t + 1) → BPK X n o Sx S p t := fun o Sx w => a2 _ _ (t3 _ _ (rd_another t1 (by simp) (by omega) b5 w))
          rcases ih (by omega) K3 (popS T 0) (p1 + 1) n11 q0 K.1.1 (pk + 1) rj3 (by omega) (by rw [st2.1 33 (by decide), t2.1 33 (by decide)]; exact a7) (by omega) ⟨(k23 0 0).nd (kx2.nd nq1), by rw [i3e _ _ (by omega), c3, hq3, nI_1]⟩ (Or.inr ⟨by rw [r3e]; exact c5, by omega, (k23 0 0).nd nc2⟩) ⟨fun h => absurd h (by omega), fun h => by rw [r3e, c5] at h; omega⟩ with ⟨K', S', p', g1, g2, g3, g4, g5, g6, g7⟩ | ⟨K', S', p', n1', m, qe, g1, g2, g3, g4, ⟨g5, g6, g7, g8⟩, ⟨-, g10⟩, ⟨g11, g12, g13⟩, g14, g15, g16, g17, g18⟩
          · exact Or.inl ⟨K', S', p', loop2 0 K' g1, g2, ⟨by omega, g3.2⟩, rdn _ _ g4, k03.trans g5 (Or.inl rfl) (Or.inr (Nat.le_refl _)), fy2.trans g6 (by omega) (Nat.le_refl _) (by omega), by omega⟩
          · obtain ⟨g10a, g10b⟩ := g10 (by omega)
            have k0' := k03.trans g14 (Or.inl rfl) (Or.inr (Nat.le_refl _))
            have sb : ∀ x, n1 ≤ x → x < n11 → S'.2 39 x = S1.2 39 x ∧ S'.2 40 x = S1.2 40 x ∧ S'.2 41 x = S1.2 41 x ∧ S'.2 42 (x - rf) = S1.2 42 (x - rf) := fun x x1 x2 => ⟨by rw [g15.2.2.1 39 (by omega) (by omega) x x2, st2.2, t2.2.1 39 (by omega)], by rw [g15.2.2.1 40 (by omega) (by omega) x x2, st2.2, t2.2.1 40 (by omega)], by rw [g15.2.2.1 41 (by omega) (by omega) x x2, st2.2, t2.2.1 41 (by omega)], by rw [g15.2.2.2.1 _ (by omega), st2.2, t2.2.1 42 (by omega)]⟩
            have e4 : (t = 0 → K'.2.2.1 q0 4 = K.1.1) ∧ (0 < t → K'.2.2.1 q0 4 = K.2.2.1 q0 4 ∧ K'.2.2.1 ql 6 = K.1.1) := by
              refine ⟨fun h => by rw [g10a, r3e]; exact c4 (ht0.mp h), fun h => ?_⟩
              have := c46 (fun q => by have := ht0.mpr q; omega)
              refine ⟨by rw [g10a, r3e]; exact this.1, ?_⟩
              have hql : ql < K.1.1 ∧ ql ≠ q0 := by
                rcases hlast with ⟨h1, -⟩ | ⟨-, h3, h4⟩
                · have := ht0.mpr h1; omega
                · exact ⟨h4.2.1, h3⟩
              rw [g14.2.2.2.2.2.1 ql (by omega) 6 (Or.inl hql.2) (Or.inl (by omega)), r3e]
              exact this.2
            rw [n3] at g4 g10b
            refine Or.inr ⟨K', S', p', n1', m + 1, qe, loop2 1 K' g1, fun r Sx w => rdn _ _ (g2 r Sx w), g3, ⟨n11, K1.1.1, ?_, fun h => absurd h (by omega), fun _ => g10b, g4⟩, ⟨by omega, by omega, by rw [g7]; congr 1; omega, by rw [g8]; congr 1; omega⟩, e4, ⟨g11, g12, by omega⟩, k0', fy2.trans g15 (by omega) (Nat.le_refl _) (by omega), ?_, by omega, by omega⟩
            · exact pst K' S'.2 K.1.1 ((k23 q0 K.1.1).trans g14 (Or.inl rfl) (Or.inl rfl)) (Or.inl rfl) sb (fun g q1 q2 => by rw [g15.2.2.2.2.1 g q1 q2 pk (by omega), st2.2, t2.2.1 g (by omega)])
            · exact (a10.loc (fun x x1 x2 => ⟨(sb x x1 x2).1, (sb x x1 x2).2.2.1⟩)).join g16 (by omega)
      · have e44 : ¬ t + 1 = 6 → ¬ qpk K2 = 44 := fun h q => h44 ⟨by rw [pk1] at q; exact (nI_ch (a := 44) (by omega) (by omega)).mp q, by omega⟩
        obtain ⟨T, t1, t2⟩ := rd h44
        exact Or.inl (fail T e62 e44 t1 t2)
theorem pd_0 : PDL X tx n rf 0 := by
  have A5 : PDL X tx n rf 5 := pd_step (by omega) (fun h => absurd h (by omega))
  have A4 : PDL X tx n rf 4 := pd_step (by omega) (fun _ => A5)
  have A3 : PDL X tx n rf 3 := pd_step (by omega) (fun _ => A4)
  have A2 : PDL X tx n rf 2 := pd_step (by omega) (fun _ => A3)
  have A1 : PDL X tx n rf 1 := pd_step (by omega) (fun _ => A2)
  exact pd_step (by omega) (fun _ => A1)
end CPPL
