/-! ===== reading codes: the choice, both sides: the whole ===== -/
theorem choSTO {S : cp_S} {k n1 rf d p : Nat} : STO k (ndS S n1 rf 9 0 (nI p)) (choS S k n1 rf d p) := by
  unfold choS
  exact (((((((psh_sto (Nat.le_refl _)).trans (psh_sto (len := k) (by omega)) (Nat.le_refl _)).trans (psh_sto (len := k) (by omega)) (Nat.le_refl _)).trans (psh_sto (len := k) (by omega)) (Nat.le_refl _)).trans (psh_sto (len := k) (by omega)) (Nat.le_refl _)).trans (psh_sto (len := k) (by omega)) (Nat.le_refl _)).trans (psh_sto (len := k) (by omega)) (Nat.le_refl _)).trans (psh_sto (len := k) (by omega)) (Nat.le_refl _)
section CPRL2
variable {X : Int32 × Int32 × Int32} {n p rf n1 : Nat} {S : cp_S} {l : List cp_I}
theorem ns217 {c a b : Int32} : ¬ SKP c (217, a, b) := nsk (by show ¬ (217 : Int32) = 201; decide) (by show ¬ (217 : Int32) = 211; decide) (by show ¬ (217 : Int32) = 215; decide)
/-- RELATION -/
theorem rd_rel {i0 c : Nat} {jk : List cp_I} (h : PS S (jk ++ (217, nI i0, 0) :: l) n1 rf) (hl : (jk ++ (217, nI i0, 0) :: l).length ≤ 400) (hp : p < n) (hn : n ≤ 80) (hc : S.2 27 p = nI c) (hc2 : c < 200) (hj : ∀ j ∈ jk, SKP (nI c) j) (hi : i0 < 2720) : ∃ T, PS T l n1 rf ∧ (T.2 40 i0 = nI c ∧ ∀ q x, (q ≠ 40 ∨ x ≠ i0) → T.2 q x = S.2 q x) ∧ (∀ k, k ≠ 29 → T.1 k = S.1 k) ∧ ((c = 61 ∨ c = 60) → ∀ o Sx, RD X n o Sx (p + 1) T → RD X n o Sx p S) ∧ (¬ (c = 61 ∨ c = 60) → RD X n (some (.int (nI p))) T p S) := by
  obtain ⟨T, t1, t2, t3⟩ := tk_jk (p := p) jk S h hl hj
  have hl2 : l.length < 400 := by rw [List.length_append, List.length_cons] at hl; omega
  obtain ⟨U, hU⟩ : ∃ U : cp_S, U = ((popS T l.length).1, va_up (popS T l.length).2 40 (upd ((popS T l.length).2 40) i0 (nI c))) := ⟨_, rfl⟩
  have u1 : ∀ k, U.1 k = (popS T l.length).1 k := fun k => by rw [hU]
  have u2 : ∀ q, q ≠ 40 → U.2 q = S.2 q := fun q hq => by rw [hU]; show (va_up (popS T l.length).2 40 (upd ((popS T l.length).2 40) i0 (nI c))) q = _; rw [cp_up_ne hq, pop_2, t2.2]
  have u40 : ∀ x, U.2 40 x = if x = i0 then nI c else S.2 40 x := fun x => by
    rw [hU]; show (va_up (popS T l.length).2 40 (upd ((popS T l.length).2 40) i0 (nI c))) 40 x = _
    rw [va_up_at]
    by_cases hx : x = i0
    · rw [if_pos hx, hx, pk_us]
    · rw [if_neg hx, pk_un hx, pop_2, t2.2]
  have pp := PS.pop t1
  have tk : ∀ (r : Int32), ((nI c = 61 ∨ nI c = 60) ∧ r = 1 ∨ (¬ nI c = 61 ∧ ¬ nI c = 60) ∧ r = 0) → (r = 0 ∨ r = 1) → JT (some (.int r)) U (nI c) (nI p) S := fun r hr hr2 => by
    refine t3 _ _ ?_
    have := tk_code (r := r) (c := nI c) (p := nI p) t1 hl2 ns217 (by show (200 : Int32) ≤ 217; decide) (by show (209 : Int32) ≤ 217; decide) hr2 (tc_217 (x2 := nI i0) (x3 := 0) (vp_in_nI (show i0 < 2720 by omega) (by decide)) hr)
    rw [nI_clamp (show i0 < 2 ^ 31 by omega)] at this
    rw [hU]; exact this
  have c61 : nI c = 61 ↔ c = 61 := nI_ch (a := 61) (by omega) (by omega)
  have c60 : nI c = 60 ↔ c = 60 := nI_ch (a := 60) (by omega) (by omega)
  refine ⟨U, ⟨by rw [u1]; exact pp.1, STK.mv _ pp.2.1 (fun q q1 q2 x _ => by rw [u2 q (by omega), pop_2, t2.2]), by rw [u1]; exact pp.2.2.1, by rw [u1]; exact pp.2.2.2⟩, ⟨by rw [u40, if_pos rfl], fun q x hqx => ?_⟩, fun k hk => by rw [u1, pop_1 hk]; exact t2.1 k hk, fun e o Sx w => rd_step hp hn hc (tk 1 (Or.inl ⟨by rcases e with e | e; exact Or.inl (c61.mpr e); exact Or.inr (c60.mpr e), rfl⟩) (Or.inr rfl)) (fun _ => w) (fun q => absurd q (by decide)), fun e => rd_step hp hn hc (tk 0 (Or.inr ⟨⟨fun q => e (Or.inl (c61.mp q)), fun q => e (Or.inr (c60.mp q))⟩, rfl⟩) (Or.inl rfl)) (fun q => absurd rfl q) (fun _ => ⟨rfl, rfl⟩)⟩
  by_cases hq : q = 40
  · subst hq
    rw [u40, if_neg (hqx.resolve_left (fun z => z rfl))]
  · rw [u2 q hq]
end CPRL2
/-- the class -/
theorem cho_kc {f d p r4 r : Nat} {K K0 T2 K' : cp_K} (q91 : qpk K = 91) (hok : qok K) (hK0 : qtk K 91 = K0) (hat : K.2.1 21 2 = nI p) (kp : KC (10 + 6 * f) m_Q_piece (fun G => [.ref (cp_b G + 21), .int 3, .int (nI (d + 1))]) K0 (fun G => some (va_rf (kr G r4))) T2) (w0 : r4 = 0 → r = 0 ∧ K' = T2)
    (w1 : ¬ r4 = 0 → qok T2 ∧ (¬ qpk T2 = 60 → ¬ qpk T2 = 61 → r = 0 ∧ K' = T2) ∧ (qpk T2 = 60 → CHT f d (qtk T2 60).1.1 (nadd (nn (qtk T2 60) 12 0 (nI p)) (qtk T2 60).1.1 r4) r K') ∧ (qpk T2 = 61 → CHT f d (qtk T2 61).1.1 (nadd (nn (qtk T2 61) 11 0 (nI p)) (qtk T2 61).1.1 r4) r K')) : KC (12 + 6 * f) m_Q_readChoice (fun G => [.ref (cp_b G + 21), .int (nI d + 1)]) K (fun G => some (va_rf (kr G r))) K' := by
  rw [nI_1]
  have b40 : (r4 = 0 ∨ ¬ qpk T2 = 60) → JC (4 + 6 * f + 8) m_Q_readChoice (fun G => .inl (some (va_rf (kr G r)))) K' 40 (fun G => [(0, .ref (cp_b G + 21)), (1, .int (nI (d + 1))), (2, .int (K.2.1 21 2)), (3, va_rf (kr G r4))]) (fun _ => []) T2 := fun h => by
    rw [hat]
    refine b_Q_readChoice_40 (D := 4 + 6 * f) ⟨fun q => ?_, fun q => ?_⟩
    · obtain ⟨e1, e2⟩ := w0 q
      rw [e1, e2]; exact ⟨rfl, rfl⟩
    · obtain ⟨v1, v2, v3, v4⟩ := w1 q
      have n60 := h.resolve_left q
      by_cases e61 : qpk T2 = 61
      · exact ⟨v1, fun _ => ⟨fun h5 => absurd nn_rn h5, cht_chw (v4 e61)⟩, fun q2 => absurd q2 (ife1 e61)⟩
      · refine ⟨v1, fun q2 => absurd (ife0 e61) q2, fun _ => ?_⟩
        obtain ⟨e1, e2⟩ := v2 n60 e61
        rw [e1, e2, qtk_ne e61]; exact ⟨rfl, rfl⟩
  refine (c_Q_readChoice (D := 4 + 6 * f) ?_).mono (by omega)
  unfold wp_Q_readChoice_0
  rw [hK0]
  refine ⟨hok, fun _ => ⟨r4, T2, kp.mono (by omega), fun q => b40 (Or.inl q), fun q => ?_⟩, fun q => absurd q (ife1 q91)⟩
  obtain ⟨v1, v2, v3, v4⟩ := w1 q
  refine ⟨v1, fun q2 => b40 (Or.inr q2), fun q2 => ⟨fun q3 => absurd q3 q, fun _ => ⟨fun _ => ?_, fun q3 => absurd q3 (ife1 q2)⟩⟩⟩
  rw [hat]
  exact ⟨fun h5 => absurd nn_rn h5, cht_chw (v3 q2)⟩
section CPCI
variable {X : Int32 × Int32 × Int32} {tx : Nat → Nat} {n rf : Nat}
theorem cj_choice {f d : Nat} {K : cp_K} {S : cp_S} {l : List cp_I} {p n1 : Nat} (hC : CJ X tx n rf f) (hdf : d + (f + 1) = 13) (hd : d < 12) (rj : RJ tx n rf K S l p n1) (hp : p < n) (hl : l.length ≤ 8 * d + 20) (h91 : tx p = 91) : CJR X tx n rf (f + 1) d K S l p n1 := by
  obtain ⟨⟨r1, r2, r3, r4⟩, ps, ⟨r5, r6, r7, r8, r9⟩, r10, r11⟩ := id rj
  have q91 : qpk K = 91 := by rw [rj.pk hp, h91]; rfl
  obtain ⟨K0, hK0⟩ : ∃ K0 : cp_K, K0 = kI K 21 2 (nI (p + 1)) := ⟨_, rfl⟩
  have hq0 : qtk K 91 = K0 := by rw [qtk_eq (p := 0) q91, r1, nI_1, hK0]
  have k0 : ∀ x y, KRX x y K K0 := fun x y => by rw [hK0]; exact KRX_at
  have n0 : K0.1.1 = K.1.1 := by rw [hK0]; rfl
  have at0 : K0.2.1 21 2 = nI (p + 1) := by rw [hK0, kI_i, va_up_at, va_up_at]
  obtain ⟨S0, hS0⟩ : ∃ S0 : cp_S, S0 = choS S l.length n1 rf d p := ⟨_, rfl⟩
  obtain ⟨L2, hL2⟩ : ∃ L2 : List cp_I, L2 = [] ++ (210, nI (d + 1), 0) :: ((nI 63, 0, 0) :: (210, nI (d + 1), 0) :: (nI 58, 0, 0) :: (210, nI (d + 1), 0) :: (nI 93, 0, 0) :: l) := ⟨_, rfl⟩
  have L2l : L2.length = l.length + 6 := by rw [hL2]; simp
  have ps0 : PS S0 ([] ++ (210, nI (d + 1), 0) :: ((217, nI n1, 0) :: L2)) (n1 + 1) rf := by rw [hS0, hL2]; exact choPS ps
  have st0 : STO l.length (ndS S n1 rf 9 0 (nI p)) S0 := by rw [hS0]; exact choSTO
  have s0 : ∀ q, q < 49 → S0.2 q = (ndS S n1 rf 9 0 (nI p)).2 q := fun q hq => st0.2.1 q (by omega)
  have f0 : RFX rf n1 l.length n1 S S0 := nds_rfx.trans st0.rfx (Nat.le_refl _) (Nat.le_refl _) (Or.inl rfl)
  have rj0 : RJ tx n rf K0 S0 ([] ++ (210, nI (d + 1), 0) :: ((217, nI n1, 0) :: L2)) (p + 1) (n1 + 1) := rj.mvz (k0 0 0) (f0.2.1 27 (by omega)) ps0 at0 (by omega) ⟨by omega, by omega⟩ ((r11.node r7).eq (fun x _ => by rw [s0 42 (by omega)]) (Nat.le_refl _)) (by omega)
  have bc : ∀ o Sx, RD X n o Sx (p + 1) S0 → BCK X n o Sx S p d := fun o Sx w => bc_cho ps (by omega) (by omega) r7 (by omega) hd (by rw [(r10 p hp).2.2, h91]) (by rw [← hS0]; exact w)
  have kc : ∀ (r : Nat) (K' : cp_K), KC (12 + 6 * f) m_Q_readChoice (fun G => [.ref (cp_b G + 21), .int (nI d + 1)]) K (fun G => some (va_rf (kr G r))) K' → KC (10 + 6 * (f + 1)) m_Q_piece (fun G => [.ref (cp_b G + 21), .int 3, .int (nI d)]) K (fun G => some (va_rf (kr G r))) K' := fun r K' w => by
    refine (pc_sgn (E := 6 + 6 * f) rj hp (fun h => by have := h.1; omega) (fun h => by have := h.2; omega) (fun h => by have := h.2; omega) ((c_Q_readSignedCode (D := 5 + 6 * f) ⟨fun _ => ⟨fun _ => ⟨fun q => ?_, fun q => ?_, fun _ => ⟨r, K', w.mono (by omega), rfl, rfl⟩, fun q => ?_, fun q => ?_⟩, fun q => absurd (ltd hd) q⟩, fun q => ?_⟩).mono (by omega))).mono (by omega)
    · rw [h91] at q; exact absurd q (by decide)
    · rw [h91] at q; exact absurd q (by decide)
    · rw [h91] at q; exact absurd q (by decide)
    · exact absurd (by rw [h91]; rfl) (q 91 (by decide))
    · rw [h91] at q; exact absurd q (by decide)
  have L1l : ((217, nI n1, 0) :: L2 : List cp_I).length = l.length + 7 := by rw [List.length_cons, L2l]
  rcases pieceAt (d := d + 1) hC (by omega) (by omega) rj0 JPK.nil (by rw [L1l]; omega) with ⟨K', S', p', a1, a2, a3, a4, a5, a6, a7⟩ | ⟨K1, S1, p1, n11, jk1, qL, a1, a2, a3, a4, a5, a6, a7, a8, a9, a10⟩
  · exact Or.inl ⟨K', S', p', kc 0 K' (cho_kc q91 r3 hq0 r1 a1 (fun _ => ⟨rfl, rfl⟩) (fun q => absurd rfl q)), a2, ⟨by omega, a3.2⟩, bc _ _ a4, (k0 K.1.1 K.1.1).trans a5 (Or.inr (by omega)) (Or.inr (by omega)), f0.trans a6 (by omega) (by rw [L1l]; omega) (Or.inr (by omega)), by omega⟩
  have ltL := RCD.lt _ _ _ _ _ _ a5
  have le1 := a7.1
  obtain ⟨⟨b1, b2, b3, b4⟩, ps1, ⟨b5, b6, b7, b8, b9⟩, b10, b11⟩ := id a3
  have jl := a4.1
  have f1 : RFX rf n1 l.length n1 S S1 := f0.trans a8 (by omega) (by rw [L1l]; omega) (Or.inr (by omega))
  have k01 : KRX K.1.1 K.1.1 K K1 := (k0 K.1.1 K.1.1).trans a7 (Or.inr (by omega)) (Or.inr (by omega))
  have hlen : (jk1 ++ (217, nI n1, 0) :: L2 : List cp_I).length ≤ 400 := by rw [List.length_append, L1l]; omega
  by_cases hpn : p1 = n
  · subst hpn
    have n60 : ¬ qpk K1 = 60 := by rw [a3.pk0]; decide
    have n61 : ¬ qpk K1 = 61 := by rw [a3.pk0]; decide
    exact Or.inl ⟨K1, S1, p1, kc 0 K1 (cho_kc q91 r3 hq0 r1 a1 (fun _ => ⟨rfl, rfl⟩) (fun _ => ⟨b3, fun _ _ => ⟨rfl, rfl⟩, fun q => absurd q n60, fun q => absurd q n61⟩)), b1, ⟨by omega, Nat.le_refl _⟩, bc _ _ (a2 _ _ (rd_end_no ps1 hlen b5 (i := (217, nI n1, 0)) (List.mem_append.mpr (Or.inr List.mem_cons_self)) (nmy (w := 217) rfl (by decide) (by decide) (by decide) (by decide)))), k01, f1, by omega⟩
  have hp1 : p1 < n := by omega
  have hc1 : tx p1 < 200 := by have := (b10 p1 hp1).1; omega
  obtain ⟨T, t1, ⟨t2, t3⟩, t4, t5, t6⟩ := rd_rel (X := X) ps1 hlen hp1 b5 (b10 p1 hp1).2.2 hc1 (fun j hj => (a4.2 j hj).2 hp1) (by omega)
  have fT : RFX rf n1 l.length n1 S1 T := ⟨fun k _ k2 => t4 k k2, fun q hq => funext (fun x => t3 q x (Or.inl (by omega))), fun q q1 q2 x hx _ => t3 q x (Or.inr (by omega)), fun x _ => t3 42 x (Or.inl (by decide)), fun q q1 q2 x _ => t3 q x (Or.inl (by omega))⟩
  have f1T : RFX rf n1 l.length n1 S T := f1.trans fT (Nat.le_refl _) (Nat.le_refl _) (Or.inl rfl)
  have pk1 := a3.pk hp1
  by_cases hrel : ¬ (tx p1 = 61 ∨ tx p1 = 60)
  · have n60 : ¬ qpk K1 = 60 := by rw [pk1]; exact nI_cc (a := 60) hc1 (by omega) (fun h => hrel (Or.inr h))
    have n61 : ¬ qpk K1 = 61 := by rw [pk1]; exact nI_cc (a := 61) hc1 (by omega) (fun h => hrel (Or.inl h))
    exact Or.inl ⟨K1, T, p1, kc 0 K1 (cho_kc q91 r3 hq0 r1 a1 (fun _ => ⟨rfl, rfl⟩) (fun _ => ⟨b3, fun _ _ => ⟨rfl, rfl⟩, fun q => absurd q n60, fun q => absurd q n61⟩)), b1, ⟨by omega, b6⟩, bc _ _ (a2 _ _ (t6 hrel)), k01, f1T, by omega⟩
  have hrel' : tx p1 = 61 ∨ tx p1 = 60 := Classical.byContradiction (fun h => hrel h)
  obtain ⟨s, hs⟩ : ∃ s : Int32, (tx p1 = 60 ∧ s = 12) ∨ (tx p1 = 61 ∧ s = 11) := by
    rcases hrel' with h | h
    · exact ⟨11, Or.inr ⟨h, rfl⟩⟩
    · exact ⟨12, Or.inl ⟨h, rfl⟩⟩
  obtain ⟨K1b, hK1b⟩ : ∃ K1b : cp_K, K1b = kI K1 21 2 (nI (p1 + 1)) := ⟨_, rfl⟩
  have hq1 : ∀ c : Int32, qpk K1 = c → qtk K1 c = K1b := fun c hc => by rw [qtk_eq (p := 0) hc, b1, nI_1, hK1b]
  have k1b : ∀ x y, KRX x y K1 K1b := fun x y => by rw [hK1b]; exact KRX_at
  have n1b : K1b.1.1 = K1.1.1 := by rw [hK1b]; rfl
  have at1b : K1b.2.1 21 2 = nI (p1 + 1) := by rw [hK1b, kI_i, va_up_at, va_up_at]
  have h86 : 86 ≤ K1b.1.1 := by omega
  obtain ⟨K4, hK4⟩ : ∃ K4 : cp_K, K4 = nn K1b s 0 (nI p) := ⟨_, rfl⟩
  have k4 : KRX K1b.1.1 K1b.1.1 K1b K4 := by rw [hK4]; exact KRX_nn h86 (Nat.le_refl _) (Nat.le_refl _)
  have n4 : K4.1.1 = K1b.1.1 + 1 := by rw [hK4]; exact nn_n
  obtain ⟨w0, w1, w2, w3⟩ := nn_new (K := K1b) (x := s) (y := 0) (z := nI p)
  have wr : ∀ g, K4.2.2.1 K1b.1.1 g = 0 := fun g => by rw [hK4]; exact nn_rn
  have nz4 : nd K4 K1b.1.1 9 := by rw [hK4]; exact nn_nd h86
  have i421 : K4.2.1 21 = K1b.2.1 21 := by rw [hK4]; exact nn_i (by omega)
  rw [← hK4] at w0 w1 w2 w3
  obtain ⟨-, k45, -, n5, c3, c5, c4, -, c21⟩ := addK (K := K4) (K1 := K4) (q0 := K1b.1.1) (ql := K4.1.1) (c := qL) KRX.refl nz4 (Or.inl ⟨wr 5, rfl⟩)
  obtain ⟨K5, hK5⟩ : ∃ K5 : cp_K, K5 = nadd K4 K1b.1.1 qL := ⟨_, rfl⟩
  rw [← hK5] at k45 n5 c3 c5 c4 c21
  have kcT : ∀ (r : Nat) (K' : cp_K), CHT f d K1b.1.1 K5 r K' → KC (10 + 6 * (f + 1)) m_Q_piece (fun G => [.ref (cp_b G + 21), .int 3, .int (nI d)]) K (fun G => some (va_rf (kr G r))) K' := fun r K' w => kc r K' (cho_kc q91 r3 hq0 r1 a1 (fun q => absurd q (by omega)) (fun _ => ⟨b3, fun q60 q61 => by
      exfalso
      rcases hrel' with h | h
      · exact q61 (by rw [pk1, h]; rfl)
      · exact q60 (by rw [pk1, h]; rfl), fun q => by
      rcases hs with ⟨h, hs⟩ | ⟨h, hs⟩
      · rw [hq1 60 q, ← hs, ← hK4, ← hK5]; exact w
      · rw [pk1, h] at q; exact absurd q (by decide), fun q => by
      rcases hs with ⟨h, hs⟩ | ⟨h, hs⟩
      · rw [pk1, h] at q; exact absurd q (by decide)
      · rw [hq1 61 q, ← hs, ← hK4, ← hK5]; exact w⟩))
  have k15 : KRX K1b.1.1 qL K1 K5 := (((KRX.refl (q0 := K1b.1.1) (ql := qL)).trans (k1b K1b.1.1 qL) (Or.inl rfl) (Or.inl rfl)).trans k4 (Or.inl rfl) (Or.inr (by omega))).trans k45 (Or.inl rfl) (Or.inr (by omega))
  have k05 : KRX K.1.1 K.1.1 K K5 := k01.trans k15 (Or.inr (by omega)) (Or.inr (by omega))
  have nqL : nd K5 qL 9 := k15.nd a5.nd
  have rj5 : RJ tx n rf K5 T L2 (p1 + 1) n11 := rj.mvz k05 (f1T.2.1 27 (by omega)) t1 (by rw [c21, i421]; exact at1b) (by omega) ⟨b7, by omega⟩ (b11.eq (fun x _ => t3 42 x (Or.inl (by decide))) (by omega)) (by omega)
  rw [hL2] at rj5
  rcases cho_tail (z := K1b.1.1) (qL := qL) hC (by omega) rj5 (by omega) (k45.nd nz4) c5 (by omega) nqL with ⟨K', S', p', g1, g2, g3, g4, g5, g6, g7⟩ | ⟨K', S', p', n1', q2, g1, g2, g3, g4, g5, g6, g7, g8, g9, g10, g11⟩
  · exact Or.inl ⟨K', S', p', kcT 0 K' g1, g2, ⟨by omega, g3.2⟩, bc _ _ (a2 _ _ (t5 hrel' _ _ g4)), k05.trans g5 (Or.inr (by omega)) (Or.inr (by omega)), f1T.trans g6 (by omega) (Nat.le_refl _) (Or.inr (by omega)), by omega⟩
  have le5 := g8.1
  have k1' : KRX K1b.1.1 qL K1 K' := k15.trans g8 (Or.inl rfl) (Or.inl rfl)
  have iz : ∀ g, g ≠ 3 → K'.2.1 K1b.1.1 g = K4.2.1 K1b.1.1 g := fun g hg => by rw [g8.2.2.2.1 _ (by omega) (by omega) g (Or.inr hg), k45.2.2.2.1 _ (by omega) (by omega) g (Or.inr hg)]
  have sab1 : SAB S1.2 S'.2 rf (n1 + 1) n11 := (show SAB S1.2 T.2 rf (n1 + 1) n11 from fun x x1 x2 => ⟨t3 39 x (Or.inl (by decide)), t3 40 x (Or.inr (by omega)), t3 41 x (Or.inl (by decide)), t3 42 _ (Or.inl (by decide))⟩).trans (g9.sab (Nat.le_refl _) (by omega) (Or.inr (Nat.le_refl _)))
  have lo : ∀ q, q = 39 ∨ q = 41 → S'.2 q n1 = (ndS S n1 rf 9 0 (nI p)).2 q n1 := fun q hq => by rw [g9.2.2.1 q (by omega) (by omega) n1 (by omega) (Or.inl (by omega)), t3 q n1 (Or.inl (by omega)), a8.2.2.1 q (by omega) (by omega) n1 (by omega) (Or.inl (by omega)), s0 q (by omega)]
  have z42 : S'.2 42 (n1 - rf) = nI p := by rw [g9.2.2.2.1 _ (by omega), t3 42 _ (Or.inl (by decide)), a8.2.2.2.1 _ (by omega), s0 42 (by omega), nds_42, if_pos rfl]
  have z40 : S'.2 40 n1 = nI (tx p1) := by rw [g9.2.2.1 40 (by omega) (by omega) n1 (by omega) (Or.inl (by omega))]; exact t2
  have x4 : K'.2.2.1 K1b.1.1 4 = qL := by rw [g6]; exact c4 (wr 5)
  refine Or.inr ⟨K', S', p', n1', [], K1b.1.1, kcT _ K' g1, fun r Sx w => bc _ _ (a2 _ _ (t5 hrel' _ _ (g2 r Sx w))), g3, JPK.nil, ⟨g8.nd (k45.nd nz4), ⟨by omega, by omega⟩, ?_, Or.inr (Or.inr (Or.inr (Or.inr (Or.inr (Or.inr ⟨?_, ?_, ⟨n11, ?_, ?_⟩, ?_⟩)))))⟩, ?_, k05.trans g8 (Or.inr (by omega)) (Or.inr (by omega)), f1T.trans g9 (by omega) (Nat.le_refl _) (Or.inr (by omega)), by omega, by omega⟩
  · rw [iz 2 (by decide), w2, z42]
  · rw [iz 0 (by decide), w0, z40]
    rcases hs with ⟨h, hs⟩ | ⟨h, hs⟩
    · exact Or.inr ⟨hs, by rw [h]; rfl⟩
    · exact Or.inl ⟨hs, by rw [h]; rfl⟩
  · rw [lo 39 (Or.inl rfl)]; exact nds_at.1
  · rw [x4, n1b]
    have := a5.kept k1' (Nat.le_refl _) (by omega) (Or.inr (by omega)) (Or.inl rfl) sab1
    rw [n0] at this
    exact this
  · rw [x4, g4]
    rw [show K5.1.1 = K1b.1.1 + 1 by omega] at g5
    exact g5
  · rw [x4, g4]; exact g7
  · rw [g8.2.2.2.2.2.1 _ (by omega) 6 (Or.inr ⟨by decide, by decide⟩) (Or.inl (by omega)), k45.2.2.2.2.2.1 _ (by omega) 6 (Or.inr ⟨by decide, by decide⟩) (Or.inl (by omega))]; exact wr 6
end CPCI
