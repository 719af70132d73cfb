/-! ===== reading codes: { }, all codes, both sides ===== -/
abbrev LMT (q0 d t : Nat) : cp_G → List (Nat × Value) := fun G => [(0, .ref (cp_b G + 21)), (1, va_rf (kr G q0)), (2, .int (nI (d + 1))), (3, .int (nI t))]
def CLS (X : Int32 × Int32 × Int32) (tx : Nat → Nat) (n rf f t : Nat) : Prop := ∀ (d : Nat) (K : cp_K) (S : cp_S) (l : List cp_I) (p n1 q0 ql i0 : Nat), d + 1 + f = 13 → RJ tx n rf K S ((214, 0, 0) :: (nI 62, 0, 0) :: (210, nI (d + 1), 0) :: (213, nI i0, nI d) :: l) p n1 → l.length ≤ 8 * d + 20 → S.2 41 i0 = nI (t + 1) → (rf ≤ i0 ∧ i0 < n1) → nd K q0 9 → (K.2.2.1 q0 5 = ql ∧ ql ≠ q0 ∧ nd K ql 9) →
  (∃ (K' : cp_K) (S' : cp_S) (p' : Nat), JC (13 + 6 * f) m_Q_readMatch (fun G => .inl (some (va_rf (kr G 0)))) K' 23 (LMT q0 d (t + 1)) (fun _ => []) K ∧ K'.2.1 21 2 = nI p' ∧ (p ≤ p' ∧ p' ≤ n) ∧ RD X n (some (.int (nI p'))) S' p S ∧ KRX q0 ql K K' ∧ RFX rf n1 l.length i0 S S' ∧ K'.1.1 ≤ K.1.1 + (p' - p) + 1) ∨
  ∃ (K' : cp_K) (S' : cp_S) (p' n1' m : Nat), JC (13 + 6 * f) m_Q_readMatch (fun G => .inl (some (va_rf (kr G q0)))) K' 23 (LMT q0 d (t + 1)) (fun _ => []) K ∧ (∀ r Sx, RD X n r Sx p' S' → RD X n r Sx p S) ∧ RJ tx n rf K' S' l p' n1' ∧ RCS (RCD K' S'.2 rf f) K' S'.2 rf m K.1.1 n1 n1' K.1.1 K'.1.1 ∧ (1 ≤ m ∧ t + m ≤ 5 ∧ S'.2 41 i0 = nI (t + m)) ∧ K'.2.2.1 ql 6 = K.1.1 ∧ K'.2.2.1 q0 4 = K.2.2.1 q0 4 ∧ KRX q0 ql K K' ∧ RFX rf n1 l.length i0 S S' ∧ K'.1.1 ≤ K.1.1 + (p' - p) + 1 ∧ p < p'
section CPCL3
variable {X : Int32 × Int32 × Int32} {tx : Nat → Nat} {n rf f : Nat}
theorem cls_step (hC : CJ X tx n rf f) {t : Nat} (ht : t ≤ 4) (ih : t < 4 → CLS X tx n rf f (t + 1)) : CLS X tx n rf f t := by
  intro d K S l p n1 q0 ql i0 hdf rj hl hc ⟨hi1, hi2⟩ hq0 hlast
  have h86 := rj.1.2.2.2
  have q0lt := hq0.2.1
  have q086 := hq0.1
  have hqlt := hlast.2.2.2.1
  have hql86 := hlast.2.2.1
  have hr7 := rj.2.2.1.2.2.1
  have hll : ((213, nI i0, nI d) :: l : List cp_I).length = l.length + 1 := List.length_cons
  have nlt : ¬ (5 : Int32) < nI (t + 1) := nI_nlt (a := 5) (b := t + 1) (by omega) (by omega)
  have e13 : 13 + 6 * f = 5 + 6 * f + 8 := by omega
  rcases caseAt hC hdf rj (by rw [hll]; omega) with ⟨K', S', p', a1, a2, a3, a4, a5, a6, a7⟩ | ⟨K1, S1, p1, n11, jk, vs, a1, a2, a3, a4, ⟨a5, a5b, a5c, a5d, a5e⟩, a6, a7, a8, a9, a10⟩
  · refine Or.inl ⟨K', S', p', ?_, a2, a3, a4, KRX.trans KRX.refl a5 (Or.inr (Nat.le_refl _)) (Or.inr (Nat.le_refl _)), a6.wk (Nat.le_refl _) (by rw [hll]; omega) (Or.inr (Nat.le_refl _)), a7⟩
    rw [e13]
    exact b_Q_readMatch_23 (D := 5 + 6 * f) ⟨fun h => absurd h nlt, fun _ => ⟨0, K', a1.mono (by omega), fun h => absurd rfl h, fun _ => ⟨rfl, rfl⟩⟩⟩
  obtain ⟨⟨b1, b2, b3, b4⟩, ps1, ⟨b5, b6, b7, b8, b9⟩, b10, b11⟩ := id a3
  have jl := a4.1
  have lt := RCD.lt _ _ _ _ _ _ a5e
  have k1le := a7.1
  obtain ⟨⟨nq1, nql1⟩, k02, ⟨qx, hqx, kx2⟩, n2, c3, c5, -, c46, c21⟩ := addK (ql := ql) (c := K.1.1) a7 hq0 (Or.inr hlast)
  obtain ⟨K2, hK2⟩ : ∃ K2 : cp_K, K2 = nadd K1 q0 K.1.1 := ⟨_, rfl⟩
  rw [← hK2] at k02 kx2 n2 c3 c5 c46 c21
  obtain ⟨c4a, c4b⟩ := c46 (by rw [hlast.1]; omega)
  have at2 : K2.2.1 21 2 = nI p1 := by rw [c21]; exact b1
  have rj2 : RJ tx n rf K2 S1 (jk ++ (213, nI i0, nI d) :: l) p1 n11 := a3.mvz kx2 rfl ps1 at2 b6 ⟨b7, b8⟩ b11 (by omega)
  have nc2 : nd K2 K.1.1 9 := kx2.nd a5
  have f1 : RFX rf n1 l.length i0 S S1 := a8.wk (Nat.le_refl _) (by rw [hll]; omega) (Or.inr (Nat.le_refl _))
  have cnt1 : S1.2 41 i0 = nI (t + 1) := by rw [a8.2.2.1 41 (by omega) (by omega) i0 hi2 (Or.inl (by omega))]; exact hc
  have loop : ∀ (r : Nat) (K' : cp_K), (qpk K2 = 125 → r = q0 ∧ K' = qtk K2 125) → (¬ qpk K2 = 125 → (t + 1 = 5 → r = 0 ∧ K' = K2) ∧ (¬ t + 1 = 5 → (¬ qpk K2 = 124 → r = 0 ∧ K' = K2) ∧ (qpk K2 = 124 → JC (13 + 6 * f) m_Q_readMatch (fun G => .inl (some (va_rf (kr G r)))) K' 23 (LMT q0 d (t + 2)) (fun _ => []) (qtk K2 124)))) → JC (13 + 6 * f) m_Q_readMatch (fun G => .inl (some (va_rf (kr G r)))) K' 23 (LMT q0 d (t + 1)) (fun _ => []) K := fun r K' w1 w2 => by
    rw [e13] at w2 ⊢
    refine b_Q_readMatch_23 (D := 5 + 6 * f) ⟨fun h => absurd h nlt, fun _ => ⟨K.1.1, K1, a1.mono (by omega), fun _ => ⟨nq1, nql1, b3, fun h => ?_, fun h => ?_⟩, fun h => absurd h (by omega)⟩⟩
    · rw [← hK2] at h ⊢
      by_cases e : qpk K2 = 125
      · exact absurd h (ife1 e)
      · obtain ⟨v1, v2⟩ := w2 e
        rw [qtk_ne e]
        refine ⟨fun h6 => ?_, fun h6 => ?_⟩
        · have : t + 1 = 5 := (nI_ch (a := 5) (by omega) (by omega)).mp h6
          obtain ⟨e1, e2⟩ := v1 this
          rw [e1, e2]; exact ⟨rfl, rfl⟩
        · have n6 : ¬ t + 1 = 5 := fun q => h6 (by rw [q]; rfl)
          obtain ⟨u1, u2⟩ := v2 n6
          by_cases e44 : qpk K2 = 124
          · refine ⟨fun _ => ?_, fun h => absurd h (ife1 e44)⟩
            rw [nI_1]; exact u2 e44
          · refine ⟨fun h => absurd (ife0 e44) h, fun _ => ?_⟩
            obtain ⟨e1, e2⟩ := u1 e44
            rw [e1, e2, qtk_ne e44]; exact ⟨rfl, rfl⟩
    · rw [← hK2] at h ⊢
      by_cases e : qpk K2 = 125
      · obtain ⟨e1, e2⟩ := w1 e
        rw [e1, e2]; exact ⟨rfl, rfl⟩
      · exact absurd (ife0 e) h
  have hlen : (jk ++ (213, nI i0, nI d) :: l : List cp_I).length ≤ 390 := by rw [List.length_append, hll]; omega
  have fail : ∀ (T : cp_S), ¬ qpk K2 = 125 → (¬ t + 1 = 5 → ¬ qpk K2 = 124) → SPO S1 T → RD X n (some (.int (nI p1))) T p1 S1 → (∃ (K' : cp_K) (S' : cp_S) (p' : Nat), JC (13 + 6 * f) m_Q_readMatch (fun G => .inl (some (va_rf (kr G 0)))) K' 23 (LMT q0 d (t + 1)) (fun _ => []) K ∧ K'.2.1 21 2 = nI p' ∧ (p ≤ p' ∧ p' ≤ n) ∧ RD X n (some (.int (nI p'))) S' p S ∧ KRX q0 ql K K' ∧ RFX rf n1 l.length i0 S S' ∧ K'.1.1 ≤ K.1.1 + (p' - p) + 1) := fun T e62 e44 st w => ⟨K2, T, p1, loop 0 K2 (fun h => absurd h e62) (fun _ => ⟨fun _ => ⟨rfl, rfl⟩, fun h => ⟨fun _ => ⟨rfl, rfl⟩, fun h2 => absurd h2 (e44 h)⟩⟩), at2, ⟨by omega, b6⟩, a2 _ _ w, k02, f1.trans (st.rfx (n1 := n1) (len := l.length) (i0 := i0)) (Nat.le_refl _) (Nat.le_refl _) (Or.inl rfl), by omega⟩
  -- the case in the end
  have fin : ∀ (K' : cp_K) (S' : cp_S) (n1' m : Nat), KRX q0 K.1.1 K2 K' → SAB S1.2 S'.2 rf n1 n11 → RCS (RCD K' S'.2 rf f) K' S'.2 rf m (K'.2.2.1 K.1.1 6) n11 n1' K1.1.1 K'.1.1 → RCS (RCD K' S'.2 rf f) K' S'.2 rf (m + 1) K.1.1 n1 n1' K.1.1 K'.1.1 := fun K' S' n1' m k hb w => by
    have i' : ∀ g, K'.2.1 K.1.1 g = K1.2.1 K.1.1 g := fun g => by rw [k.2.2.2.1 _ (by omega) (by omega) g (Or.inl (by omega)), kx2.2.2.2.1 _ (by omega) (by omega) g (Or.inl (by omega))]
    have r' : ∀ g, g = 4 ∨ g = 5 → K'.2.2.1 K.1.1 g = K1.2.2.1 K.1.1 g := fun g hg => by rw [k.2.2.2.2.2.1 _ (by omega) g (Or.inl (by omega)) (Or.inr (by omega)), kx2.2.2.2.2.2.1 _ (by omega) g (Or.inl (by omega)) (Or.inl (by omega))]
    refine ⟨vs, n11, K1.1.1, rfl, k.nd nc2, by rw [i']; exact a5b, by rw [r' 4 (Or.inl rfl)]; exact a5c, ?_, ?_, w⟩
    · exact (a5d.kept kx2 (by omega) (by omega) (Or.inl (by omega)) (by omega) SAB.refl).kept k (by omega) (by omega) (Or.inl (by omega)) (Or.inr (Or.inl (by omega))) (hb.sub (Nat.le_refl _) (by omega))
    · rw [r' 5 (Or.inr rfl)]
      exact (a5e.kept kx2 (Nat.le_refl _) (by omega) (Or.inl (by omega)) (by omega) SAB.refl).kept k (by omega) (by omega) (Or.inl (by omega)) (Or.inr (Or.inl (by omega))) (hb.sub (by omega) (Nat.le_refl _))
  by_cases hpn : p1 = n
  · subst hpn
    have k0 := rj2.pk0
    exact Or.inl (fail S1 (by rw [k0]; decide) (fun _ => by rw [k0]; decide) ⟨fun _ _ => rfl, rfl⟩ (rd_end_no ps1 (by omega) b5 (i := (213, nI i0, nI d)) (List.mem_append.mpr (Or.inr List.mem_cons_self)) nm213))
  have hp1 : p1 < n := by omega
  have hc200 : tx p1 < 200 := by have := (b10 p1 hp1).1; omega
  have pk1 := rj2.pk hp1
  have ctx := (b10 p1 hp1).2.2
  obtain ⟨ra, rb, rc⟩ := rd_cases (X := X) (t := t + 1) ps1 hlen hp1 b5 ctx hc200 (fun j hj => (a4.2 j hj).2 hp1) (by omega) (by omega) cnt1
  obtain ⟨K3, hK3⟩ : ∃ K3 : cp_K, K3 = kI K2 21 2 (nI (p1 + 1)) := ⟨_, rfl⟩
  have hq : ∀ c : Int32, qpk K2 = c → qtk K2 c = K3 := fun c h => by rw [qtk_eq (p := 0) h, at2, nI_1, hK3]
  have k23 : ∀ x y, KRX x y K2 K3 := fun x y => by rw [hK3]; exact KRX_at
  have k03 := k02.trans (k23 q0 ql) (Or.inl rfl) (Or.inl rfl)
  have n3 : K3.1.1 = K1.1.1 := by rw [hK3]; exact n2
  have r3e : ∀ x g, K3.2.2.1 x g = K2.2.2.1 x g := fun x g => by rw [hK3]; rfl
  have at3 : K3.2.1 21 2 = nI (p1 + 1) := by rw [hK3, kI_i, va_up_at, va_up_at]
  have nx2 : K2.2.2.1 K.1.1 6 = 0 := by rw [kx2.2.2.2.2.2.1 _ (by omega) 6 (Or.inl (by omega)) (Or.inl (by omega))]; exact a6
  by_cases h125 : tx p1 = 125
  · obtain ⟨T, t1, t2, t3⟩ := ra ⟨h125, by omega⟩
    have q125 : qpk K2 = 125 := by rw [pk1, h125]; rfl
    have fT : RFX rf n1 l.length i0 S T := f1.trans (t2.rfx (n1 := n1) (len := l.length) (i0 := i0)) (Nat.le_refl _) (Nat.le_refl _) (Or.inl rfl)
    refine Or.inr ⟨K3, T, p1 + 1, n11, 1, loop q0 K3 (fun _ => ⟨rfl, (hq 125 q125).symm⟩) (fun h => absurd q125 h), fun r Sx w => a2 _ _ (t3 _ _ w), rj2.mvz (k23 0 0) (by rw [t2.2]) t1 at3 (by omega) ⟨b7, by omega⟩ (b11.eq (fun x _ => by rw [t2.2]) (by omega)) (by omega), fin K3 T n11 0 (k23 _ _) (fun x _ _ => by rw [t2.2]; exact ⟨rfl, rfl, rfl, rfl⟩) ⟨by rw [r3e]; exact nx2, rfl, by omega⟩, ⟨Nat.le_refl _, by omega, by rw [t2.2]; exact cnt1⟩, by rw [r3e]; exact c4b, by rw [r3e]; exact c4a, k03, fT, by rw [n3]; omega, by omega⟩
  have e125 : ¬ qpk K2 = 125 := by rw [pk1]; exact nI_cc (a := 125) hc200 (by omega) h125
  by_cases h124 : tx p1 = 124 ∧ t + 1 < 5
  · obtain ⟨T, t1, t2, t3, t4⟩ := rb h124
    have q124 : qpk K2 = 124 := by rw [pk1, h124.1]; rfl
    have fT : RFX rf n1 l.length i0 S T := f1.trans t2 (by omega) (Nat.le_refl _) (Or.inl rfl)
    have rj3 : RJ tx n rf K3 T ((214, 0, 0) :: (nI 62, 0, 0) :: (210, nI (d + 1), 0) :: (213, nI i0, nI d) :: l) (p1 + 1) n11 := rj2.mvz (k23 0 0) (t2.2.1 27 (by omega)) t1 at3 (by omega) ⟨b7, by omega⟩ (b11.eq (fun x hx => t2.2.2.2.1 x hx) (by omega)) (by omega)
    have loop2 : ∀ (r : Nat) (K' : cp_K), JC (13 + 6 * f) m_Q_readMatch (fun G => .inl (some (va_rf (kr G r)))) K' 23 (LMT q0 d (t + 2)) (fun _ => []) K3 → JC (13 + 6 * f) m_Q_readMatch (fun G => .inl (some (va_rf (kr G r)))) K' 23 (LMT q0 d (t + 1)) (fun _ => []) K := fun r K' w => loop r K' (fun h => absurd h e125) (fun _ => ⟨fun h => absurd h (by omega), fun _ => ⟨fun h => absurd q124 h, fun _ => by rw [hq 124 q124]; exact w⟩⟩)
    rcases ih (by omega) d K3 T l (p1 + 1) n11 q0 K.1.1 i0 hdf rj3 hl t3 ⟨hi1, by omega⟩ ((k23 0 0).nd (kx2.nd nq1)) ⟨by rw [r3e]; exact c5, by omega, (k23 0 0).nd nc2⟩ with ⟨K', S', p', g1, g2, g3, g4, g5, g6, g7⟩ | ⟨K', S', p', n1', m, g1, g2, g3, g4, ⟨g5, g6, g7⟩, g8, g9, g10, g11, g12, g13⟩
    · exact Or.inl ⟨K', S', p', loop2 0 K' g1, g2, ⟨by omega, g3.2⟩, a2 _ _ (t4 _ _ g4), k03.trans g5 (Or.inl rfl) (Or.inr (Nat.le_refl _)), fT.trans g6 (by omega) (Nat.le_refl _) (Or.inl rfl), by omega⟩
    · rw [n3] at g4 g8
      refine Or.inr ⟨K', S', p', n1', m + 1, loop2 _ K' g1, fun r Sx w => a2 _ _ (t4 _ _ (g2 r Sx w)), g3, fin K' S' n1' m ((k23 q0 K.1.1).trans g10 (Or.inl rfl) (Or.inl rfl)) ((t2.trans g11 (Nat.le_refl _) (Nat.le_refl _) (Or.inl rfl)).sab (Nat.le_refl _) (by omega) (Or.inl (by omega))) (by rw [g8]; exact g4), ⟨by omega, by omega, by rw [g7]; congr 1; omega⟩, ?_, by rw [g9, r3e]; exact c4a, k03.trans g10 (Or.inl rfl) (Or.inr (Nat.le_refl _)), fT.trans g11 (by omega) (Nat.le_refl _) (Or.inl rfl), by omega, by omega⟩
      rw [g10.2.2.2.2.2.1 ql (by omega) 6 (Or.inl hlast.2.1) (Or.inl (by omega)), r3e]; exact c4b
  · obtain ⟨T, t1, t2⟩ := rc (fun h => h125 h.1) h124
    exact Or.inl (fail T e125 (fun h q => h124 ⟨by rw [pk1] at q; exact (nI_ch (a := 124) (by omega) (by omega)).mp q, by omega⟩) t1 t2)
theorem cls_0 (hC : CJ X tx n rf f) : CLS X tx n rf f 0 := by
  have A4 : CLS X tx n rf f 4 := cls_step hC (by omega) (fun h => absurd h (by omega))
  have A3 : CLS X tx n rf f 3 := cls_step hC (by omega) (fun _ => A4)
  have A2 : CLS X tx n rf f 2 := cls_step hC (by omega) (fun _ => A3)
  have A1 : CLS X tx n rf f 1 := cls_step hC (by omega) (fun _ => A2)
  exact cls_step hC (by omega) (fun _ => A1)
/-- { } -/
theorem cj_match {d : Nat} {K : cp_K} {S : cp_S} {l : List cp_I} {p n1 : Nat} (hC : CJ X tx n rf f) (hdf : d + (f + 1) = 13) (hd : d < 12) (rj : RJ tx n rf K S l p n1) (hp : p < n) (hl : l.length ≤ 8 * d + 20) (h123 : tx p = 123) : CJR X tx n rf (f + 1) d K S l p n1 := by
  obtain ⟨⟨r1, r2, r3, r4⟩, ps, ⟨r5, r6, r7, r8, r9⟩, r10, r11⟩ := id rj
  obtain ⟨K0, hK0⟩ : ∃ K0 : cp_K, K0 = qlf K 9 0 := ⟨_, rfl⟩
  have k0 : KRX K.1.1 K.1.1 K K0 := by rw [hK0]; exact KRX_leaf r4 (Nat.le_refl _) (Nat.le_refl _)
  have n0 : K0.1.1 = K.1.1 + 1 := by rw [hK0]; exact ql_n
  obtain ⟨w0, w1, w2, w3⟩ := ql_new (x := 9) (y := 0) r4
  rw [← hK0] at w0 w1 w2 w3
  have wr : ∀ g, K0.2.2.1 K.1.1 g = 0 := fun g => by rw [hK0]; exact ql_rn
  have nd0 : nd K0 K.1.1 9 := ⟨r4, by omega, k0.2.2.1 _ (Nat.le_refl _) (by omega)⟩
  obtain ⟨S0, hS0⟩ : ∃ S0 : cp_S, S0 = pshS (pshS (ndS S n1 rf 8 0 (nI p)) l.length 213 (nI n1) (nI d)) (l.length + 1) 210 (nI (d + 1)) 0 := ⟨_, rfl⟩
  have ps0 : PS S0 ([] ++ (210, nI (d + 1), 0) :: ((213, nI n1, nI d) :: l)) (n1 + 1) rf := by rw [hS0]; exact PS.push (l := (213, nI n1, nI d) :: l) (PS.push (PS.node ps))
  have st0 : STO l.length (ndS S n1 rf 8 0 (nI p)) S0 := by rw [hS0]; exact (psh_sto (Nat.le_refl _)).trans (psh_sto (len := l.length) (by omega)) (Nat.le_refl _)
  have s0 : ∀ q, q < 49 → S0.2 q = (ndS S n1 rf 8 0 (nI p)).2 q := fun q hq => st0.2.1 q (by omega)
  have f0 : RFX rf n1 l.length n1 S S0 := nds_rfx.trans st0.rfx (Nat.le_refl _) (Nat.le_refl _) (Or.inl rfl)
  have rj0 : RJ tx n rf K0 S0 ([] ++ (210, nI (d + 1), 0) :: ((213, nI n1, nI d) :: l)) (p + 1) (n1 + 1) := by
    have := rj.leaf (x := 9) (y := 0) (x' := 8) (v := 0) hp
    rw [← hK0] at this
    exact this.mvz (KRX.refl (q0 := 0) (ql := 0)) (s0 27 (by omega)) ps0 this.1.1 (by omega) ⟨by omega, by omega⟩ (this.2.2.2.2.eq (fun z _ => by rw [s0 42 (by omega)]) (Nat.le_refl _)) (by omega)
  have bc : ∀ o Sx, RD X n o Sx (p + 1) S0 → BCK X n o Sx S p d := fun o Sx w => bc_mat ps (by omega) (by omega) r7 (by omega) hd (by rw [(r10 p hp).2.2, h123]) (by rw [← hS0]; exact w)
  have kc : ∀ (r : Nat) (K' : cp_K), (∃ r3 T1, KC (11 + 6 * f) m_Q_withPiece (fun G => [.ref (cp_b G + 21), va_rf (kr G K.1.1), .int 3, .int (nI (d + 1))]) K0 (fun G => some (va_rf (kr G r3))) T1 ∧ (r3 = 0 → r = 0 ∧ K' = T1) ∧ (¬ r3 = 0 → qok T1 ∧ (qpk T1 = 124 → JC (13 + 6 * f) m_Q_readMatch (fun G => .inl (some (va_rf (kr G r)))) K' 23 (LMT K.1.1 d 1) (fun _ => []) (qtk T1 124)) ∧ (¬ qpk T1 = 124 → r = 0 ∧ K' = T1))) → KC (10 + 6 * (f + 1)) m_Q_piece (fun G => [.ref (cp_b G + 21), .int 3, .int (nI d)]) K (fun G => some (va_rf (kr G r))) K' := fun r K' w => by
    obtain ⟨r3', T1, u1, u2, u3⟩ := w
    rw [show 13 + 6 * f = 5 + 6 * f + 8 by omega] at u3
    have mt : KC (13 + 6 * f) m_Q_readMatch (fun G => [.ref (cp_b G + 21), va_rf (kr G K.1.1), .int (nI d + 1)]) K0 (fun G => some (va_rf (kr G r))) K' := by
      rw [nI_1]
      refine (c_Q_readMatch (D := 5 + 6 * f) ⟨r3', T1, u1.mono (by omega), fun q => ?_, fun q => ?_⟩).mono (by omega)
      · obtain ⟨e1, e2⟩ := u2 q
        rw [e1, e2]; exact ⟨rfl, rfl⟩
      · obtain ⟨v1, v2, v3⟩ := u3 q
        by_cases e : qpk T1 = 124
        · exact ⟨v1, fun _ => v2 e, fun q => absurd q (ife1 e)⟩
        · refine ⟨v1, fun q => absurd (ife0 e) q, fun _ => ?_⟩
          obtain ⟨e1, e2⟩ := v3 e
          rw [e1, e2, qtk_ne e]; exact ⟨rfl, rfl⟩
    rw [hK0] at mt
    refine (pc_sgn (E := 7 + 6 * f) rj hp (fun h => by have := h.2; omega) (fun h => by have := h.2; omega) (fun h => by have := h.2; omega) ((c_Q_readSignedCode (D := 6 + 6 * f) ⟨fun _ => ⟨fun _ => ⟨fun q => ?_, fun q => ?_, fun q => ?_, fun _ => ⟨r, K', mt.mono (by omega), rfl, rfl⟩, fun q => ?_⟩, fun q => absurd (ltd hd) q⟩, fun q => ?_⟩).mono (by omega))).mono (by omega)
    · rw [h123] at q; exact absurd q (by decide)
    · rw [h123] at q; exact absurd q (by decide)
    · rw [h123] at q; exact absurd q (by decide)
    · exact absurd (by rw [h123]; rfl) (q 123 (by decide))
    · rw [h123] at q; exact absurd q (by decide)
  have ll : ((213, nI n1, nI d) :: l : List cp_I).length = l.length + 1 := List.length_cons
  rcases codeAt (q0 := K.1.1) (ql := K0.1.1) hC (by omega) (by omega) rj0 JPK.nil (by rw [ll]; omega) nd0 (Or.inl ⟨wr 5, rfl⟩) with ⟨K', S', p', a1, a2, a3, a4, a5, a6, a7⟩ | ⟨K1, S1, p1, n11, jk1, q1, a1, a2, a3, a4, a5, a6, ⟨a7, a8, a9, -⟩, a10, a11, a12, a13⟩
  · exact Or.inl ⟨K', S', p', kc 0 K' ⟨0, K', a1, fun _ => ⟨rfl, rfl⟩, fun q => absurd rfl q⟩, a2, ⟨by omega, a3.2⟩, bc _ _ a4, k0.trans a5 (Or.inr (by omega)) (Or.inr (by omega)), f0.trans a6 (by omega) (by rw [ll]; omega) (Or.inr (by omega)), by omega⟩
  have lt1 := RCD.lt _ _ _ _ _ _ a5
  have k1le := a10.1
  have jl := a4.1
  obtain ⟨⟨b1, b2, b3, b4⟩, ps1, ⟨b5, b6, b7, b8, b9⟩, b10, b11⟩ := id a3
  have k01 : KRX K.1.1 K.1.1 K K1 := k0.trans a10 (Or.inl rfl) (Or.inr (by omega))
  have f1 : RFX rf n1 l.length n1 S S1 := f0.trans a11 (by omega) (by rw [ll]; omega) (Or.inr (by omega))
  have hlen : (jk1 ++ (213, nI n1, nI d) :: l : List cp_I).length ≤ 390 := by rw [List.length_append, ll]; omega
  have nq1 : nd K1 q1 9 := a5.nd
  have cnt1 : S1.2 41 n1 = nI 0 := by rw [a11.2.2.1 41 (by omega) (by omega) n1 (by omega) (Or.inl (by omega)), s0 41 (by omega)]; exact nds_at.2.2
  have fail : ∀ (T : cp_S), ¬ qpk K1 = 124 → SPO S1 T → RD X n (some (.int (nI p1))) T p1 S1 → CJR X tx n rf (f + 1) d K S l p n1 := fun T e st w => Or.inl ⟨K1, T, p1, kc 0 K1 ⟨K.1.1, K1, a1, fun q => absurd q (by omega), fun _ => ⟨b3, fun q => absurd q e, fun _ => ⟨rfl, rfl⟩⟩⟩, b1, ⟨by omega, b6⟩, bc _ _ (a2 _ _ w), k01, f1.trans (st.rfx (n1 := n1) (len := l.length) (i0 := n1)) (Nat.le_refl _) (Nat.le_refl _) (Or.inl rfl), by omega⟩
  by_cases hpn : p1 = n
  · subst hpn
    exact fail S1 (by rw [a3.pk0]; decide) ⟨fun _ _ => rfl, rfl⟩ (rd_end_no ps1 (by omega) b5 (i := (213, nI n1, nI d)) (List.mem_append.mpr (Or.inr List.mem_cons_self)) nm213)
  have hp1 : p1 < n := by omega
  have hc200 : tx p1 < 200 := by have := (b10 p1 hp1).1; omega
  have pk1 := a3.pk hp1
  obtain ⟨-, rb, rc⟩ := rd_cases (X := X) (t := 0) ps1 hlen hp1 b5 (b10 p1 hp1).2.2 hc200 (fun j hj => (a4.2 j hj).2 hp1) (by omega) (by omega) cnt1
  by_cases h124 : tx p1 = 124
  · obtain ⟨T, t1, t2, t3, t4⟩ := rb ⟨h124, by omega⟩
    have q124 : qpk K1 = 124 := by rw [pk1, h124]; rfl
    obtain ⟨K2, hK2⟩ : ∃ K2 : cp_K, K2 = kI K1 21 2 (nI (p1 + 1)) := ⟨_, rfl⟩
    have hq : qtk K1 124 = K2 := by rw [qtk_eq (p := 0) q124, b1, nI_1, hK2]
    have k12 : ∀ x y, KRX x y K1 K2 := fun x y => by rw [hK2]; exact KRX_at
    have n2 : K2.1.1 = K1.1.1 := by rw [hK2]; rfl
    have r2e : ∀ x g, K2.2.2.1 x g = K1.2.2.1 x g := fun x g => by rw [hK2]; rfl
    have i2e : ∀ x g, x ≠ 21 → K2.2.1 x g = K1.2.1 x g := fun x g hx => by rw [hK2, kI_i, cp_up_ne hx]
    have rj2 : RJ tx n rf K2 T ((214, 0, 0) :: (nI 62, 0, 0) :: (210, nI (d + 1), 0) :: (213, nI n1, nI d) :: l) (p1 + 1) n11 := a3.mvz (k12 0 0) (t2.2.1 27 (by omega)) t1 (by rw [hK2, kI_i, va_up_at, va_up_at]) (by omega) ⟨b7, by omega⟩ (b11.eq (fun x hx => t2.2.2.2.1 x hx) (by omega)) (by omega)
    have f2 : RFX rf n1 l.length n1 S T := f1.trans t2 (by omega) (Nat.le_refl _) (Or.inl rfl)
    have k02 : KRX K.1.1 K.1.1 K K2 := k01.trans (k12 K.1.1 K.1.1) (Or.inl rfl) (Or.inl rfl)
    have kc2 : ∀ (r : Nat) (K' : cp_K), JC (13 + 6 * f) m_Q_readMatch (fun G => .inl (some (va_rf (kr G r)))) K' 23 (LMT K.1.1 d 1) (fun _ => []) K2 → KC (10 + 6 * (f + 1)) m_Q_piece (fun G => [.ref (cp_b G + 21), .int 3, .int (nI d)]) K (fun G => some (va_rf (kr G r))) K' := fun r K' w => kc r K' ⟨K.1.1, K1, a1, fun q => absurd q (by omega), fun _ => ⟨b3, fun _ => by rw [hq]; exact w, fun q => absurd q124 q⟩⟩
    rcases cls_0 hC d K2 T l (p1 + 1) n11 K.1.1 q1 n1 (by omega) rj2 hl t3 ⟨r7, by omega⟩ ((k12 0 0).nd (a10.nd nd0)) ⟨by rw [r2e]; exact a8, by omega, (k12 0 0).nd nq1⟩ with ⟨K', S', p', g1, g2, g3, g4, g5, g6, g7⟩ | ⟨K', S', p', n1', m, g1, g2, g3, g4, ⟨g5, g6, g7⟩, g8, g9, g10, g11, g12, g13⟩
    · exact Or.inl ⟨K', S', p', kc2 0 K' g1, g2, ⟨by omega, g3.2⟩, bc _ _ (a2 _ _ (t4 _ _ g4)), k02.trans g5 (Or.inl rfl) (Or.inr (by omega)), f2.trans g6 (by omega) (Nat.le_refl _) (Or.inl rfl), by omega⟩
    · have le := g10.1
      rw [Nat.zero_add] at g6 g7
      rw [n2] at g4 g8
      have x4 : K'.2.2.1 K.1.1 4 = q1 := by rw [g9, r2e]; exact a9 (wr 5)
      have iz : ∀ g, g ≠ 3 → K'.2.1 K.1.1 g = K0.2.1 K.1.1 g := fun g hg => by rw [g10.2.2.2.1 _ (by omega) (by omega) g (Or.inr hg), i2e _ _ (by omega), a10.2.2.2.1 _ (by omega) (by omega) g (Or.inr hg)]
      have fN : RFX rf n11 l.length n1 S1 S' := t2.trans g11 (Nat.le_refl _) (Nat.le_refl _) (Or.inl rfl)
      refine Or.inr ⟨K', S', p', n1', [], K.1.1, kc2 _ K' g1, fun r Sx w => bc _ _ (a2 _ _ (t4 _ _ (g2 r Sx w))), g3, JPK.nil, ⟨g10.nd ((k12 0 0).nd (a10.nd nd0)), ⟨Nat.le_refl _, by omega⟩, ?_, Or.inr (Or.inr (Or.inr (Or.inr (Or.inr (Or.inl ⟨?_, ?_, m, n11, K1.1.1, g5, g6, g7, ?_, ?_⟩)))))⟩, ?_, k02.trans g10 (Or.inl rfl) (Or.inr (by omega)), f2.trans g11 (by omega) (Nat.le_refl _) (Or.inl rfl), by omega, by omega⟩
      · rw [iz 2 (by decide), w2, r1, fN.2.2.2.1 _ (by omega), a11.2.2.2.1 _ (by omega), s0 42 (by omega), nds_42, if_pos rfl]
      · rw [iz 0 (by decide)]; exact w0
      · rw [fN.2.2.1 39 (by omega) (by omega) n1 (by omega) (Or.inr (by decide)), a11.2.2.1 39 (by omega) (by omega) n1 (by omega) (Or.inl (by omega)), s0 39 (by omega)]; exact nds_at.1
      · rw [x4, ← n0]
        exact a5.kept ((k12 K.1.1 q1).trans g10 (Or.inl rfl) (Or.inl rfl)) (Nat.le_refl _) (by omega) (Or.inl (by omega)) (Or.inl rfl) (fN.sab (Nat.le_refl _) (by omega) (Or.inl (by omega)))
      · rw [x4, g8]; exact g4
      · rw [g10.2.2.2.2.2.1 _ (by omega) 6 (Or.inr ⟨by decide, by decide⟩) (Or.inl (by omega)), r2e, a10.2.2.2.2.2.1 _ (by omega) 6 (Or.inr ⟨by decide, by decide⟩) (Or.inl (by omega))]; exact wr 6
  · obtain ⟨T, t1, t2⟩ := rc (fun h => by omega) (fun h => h124 h.1)
    exact fail T (by rw [pk1]; exact nI_cc (a := 124) hc200 (by omega) h124) t1 t2
/-- all codes -/
theorem cj_step (hC : 1 ≤ f → CJ X tx n rf f) : CJ X tx n rf (f + 1) := by
  intro d K S l p n1 hdf hd rj hp hl
  have hc : tx p < 200 := by have := (rj.2.2.2.1 p hp).1; omega
  by_cases hV : isV (tx p)
  · exact cj_leaf (x := 5) (y := nI (tx p)) (x' := 1) (v := nI (tx p - 97)) rj hp (Or.inl ⟨hV, ⟨rfl, rfl⟩, rfl, rfl⟩)
  by_cases hD : isD (tx p)
  · exact cj_leaf (x := 1) (y := nI (tx p - 48)) (x' := 2) (v := nI (tx p - 48)) rj hp (Or.inr (Or.inl ⟨hD, ⟨rfl, rfl⟩, rfl, rfl⟩))
  by_cases h126 : tx p = 126
  · exact cj_leaf (x := 13) (y := 0) (x' := 10) (v := nI (tx p - 48)) rj hp (Or.inr (Or.inr ⟨h126, ⟨rfl, rfl⟩, rfl, rfl⟩))
  by_cases hL : isL (tx p)
  · exact cj_letter (fun h => ac_0 (hC h)) hdf hd rj hp hl hL
  by_cases h12 : d = 12
  · exact cj_no rj hp (by omega) hV hD h126 hL (Or.inl h12)
  have hC' := hC (by omega)
  by_cases h43 : tx p = 43
  · exact cj_sum (x := 7) (x' := 6) hC' hdf (by omega) rj hp hl (Or.inl ⟨h43, rfl, rfl⟩)
  by_cases h45 : tx p = 45
  · exact cj_sum (x := 8) (x' := 7) hC' hdf (by omega) rj hp hl (Or.inr ⟨h45, rfl, rfl⟩)
  by_cases h123 : tx p = 123
  · exact cj_match hC' hdf (by omega) rj hp hl h123
  by_cases h91 : tx p = 91
  · exact cj_choice hC' hdf (by omega) rj hp hl h91
  · exact cj_no rj hp (by omega) hV hD h126 hL (Or.inr (by rintro (h | h | h | h) <;> contradiction))
theorem cj_all : ∀ f, CJ X tx n rf (f + 1)
  | 0 => cj_step (fun h => absurd h (by omega))
  | f + 1 => cj_step (fun _ => cj_all f)
end CPCL3
