/-! ===== reading: a condition, both sides ===== -/
section CPPC
variable {X : Int32 × Int32 × Int32} {tx : Nat → Nat} {n rf : Nat} {K : cp_K} {S : cp_S} {l : List cp_I} {p n1 a pk : Nat}
theorem nmy {i : cp_I} {w : Int32} (h : i.1 = w) (h1 : ¬ w = 201) (h2 : ¬ w = 211) (h3 : ¬ w = 215) (h4 : ¬ w = 218) : ¬ may i := by
  rintro (q | q | q | ⟨q, -⟩)
  · exact h1 (h.symm.trans q)
  · exact h2 (h.symm.trans q)
  · exact h3 (h.symm.trans q)
  · exact h4 (h.symm.trans q)
theorem pj_cond (rj : RJ tx n rf K S l p n1) (hp : p < n) (hl : l.length ≤ 5) (h33 : S.1 33 = nI pk) (hpk : pk < 179) (h63 : tx p = 63) : PJF X n rf K S l p n1 a pk ∨ PJO X tx n rf K S l p n1 a pk := by
  obtain ⟨⟨r1, r2, r3, r4⟩, ps, ⟨r5, r6, r7, r8, r9⟩, r10, r11⟩ := id rj
  have hc : tx p < 200 := by omega
  -- the class takes the mark
  have q63 : qpk K = 63 := by rw [rj.pk hp, h63]; rfl
  obtain ⟨K0, hK0⟩ : ∃ K0 : cp_K, K0 = kI K 21 2 (nI (p + 1)) := ⟨_, rfl⟩
  have hq0 : qtk K 63 = K0 := by rw [qtk_eq (p := 0) q63, r1, nI_1, hK0]
  have k0 : KRX K.1.1 K.1.1 K K0 := by rw [hK0]; exact KRX_at
  have n0 : K0.1.1 = K.1.1 := by rw [hK0]; rfl
  have at0 : K0.2.1 21 2 = nI (p + 1) := by rw [hK0, kI_i, va_up_at, va_up_at]
  -- the reference begins the part
  obtain ⟨Sp, hSp⟩ : ∃ Sp : cp_S, Sp = ptS (pshS S l.length 205 (nI (a + 1)) 0) pk 2 (-1) 1 (nI p) := ⟨_, rfl⟩
  have psp : PS Sp ((205, nI (a + 1), 0) :: l) n1 rf := by rw [hSp]; exact PS.pts ps.push
  have fp : RFY rf n1 l.length pk S Sp := by rw [hSp]; exact (psh_rfy (Nat.le_refl _)).trans (pts_rfy (len := l.length)) (Nat.le_refl _) (Nat.le_refl _) (Nat.le_refl _)
  have atp := pts_at (S := pshS S l.length 205 (nI (a + 1)) 0) (pk := pk) (kd := 2) (nm := -1) (tm := 1) (p := nI p)
  rw [← hSp] at atp
  have sp33 : Sp.1 33 = nI (pk + 1) := by rw [hSp]; exact pts_33
  have p46 : Sp.2 46 pk = nI n1 := by rw [atp.2.2.1, psh_1 (by decide)]; exact ps.2.2.1
  obtain ⟨L1, hL1⟩ : ∃ L1 : List cp_I, L1 = (61, 0, 0) :: (200, 2, 0) :: (205, nI (a + 1), 0) :: l := ⟨_, rfl⟩
  have L1l : L1.length = l.length + 3 := by rw [hL1]; simp
  obtain ⟨S1, hS1⟩ : ∃ S1 : cp_S, S1 = pshS (pshS (pshS (pshS (pshS (pshS Sp (l.length + 1) 200 2 0) (l.length + 2) 61 0 0) (l.length + 3) 208 (nI pk) 0) (l.length + 4) 200 2 0) (l.length + 5) 40 0 0) (l.length + 6) 207 (nI pk) 0 := ⟨_, rfl⟩
  have pa := psp.push (w := 200) (x := 2) (y := 0)
  have pb := pa.push (w := 61) (x := 0) (y := 0)
  have pc := pb.push (w := 208) (x := nI pk) (y := 0)
  have pd := pc.push (w := 200) (x := 2) (y := 0)
  have pe := pd.push (w := 40) (x := 0) (y := 0)
  have pf := pe.push (w := 207) (x := nI pk) (y := 0)
  have ps1 : PS S1 ((207, nI pk, 0) :: (nI 40, 0, 0) :: (200, 2, 0) :: (208, nI pk, 0) :: L1) n1 rf := by
    rw [hS1, hL1]
    simp only [List.length_cons] at pf
    exact pf
  have sp1 : ∀ q, q < 49 → S1.2 q = Sp.2 q := fun q hq => by rw [hS1, psh_2 (by omega), psh_2 (by omega), psh_2 (by omega), psh_2 (by omega), psh_2 (by omega), psh_2 (by omega)]
  have sp1' : ∀ k, k ≠ 29 → S1.1 k = Sp.1 k := fun k hk => by rw [hS1, psh_1 hk, psh_1 hk, psh_1 hk, psh_1 hk, psh_1 hk, psh_1 hk]
  have fS : RFY rf n1 (l.length + 1) 1000 Sp S1 := by
    rw [hS1]
    exact (((((psh_rfy (P := 1000) (len := l.length + 1) (Nat.le_refl _)).trans (psh_rfy (P := 1000) (len := l.length + 1) (by omega)) (Nat.le_refl _) (Nat.le_refl _) (Nat.le_refl _)).trans (psh_rfy (P := 1000) (len := l.length + 1) (by omega)) (Nat.le_refl _) (Nat.le_refl _) (Nat.le_refl _)).trans (psh_rfy (P := 1000) (len := l.length + 1) (by omega)) (Nat.le_refl _) (Nat.le_refl _) (Nat.le_refl _)).trans (psh_rfy (P := 1000) (len := l.length + 1) (by omega)) (Nat.le_refl _) (Nat.le_refl _) (Nat.le_refl _)).trans (psh_rfy (P := 1000) (len := l.length + 1) (by omega)) (Nat.le_refl _) (Nat.le_refl _) (Nat.le_refl _)
  have f1 : RFY rf n1 l.length pk S S1 := fp.trans fS (Nat.le_refl _) (by omega) (by omega)
  have bp : ∀ o Sx, RD X n o Sx (p + 1) S1 → BPK X n o Sx S p a := fun o Sx w => bp_cond ps (by omega) (by rw [(r10 p hp).2.2, h63]) h33 (by omega) (by rw [← hSp, ← hS1]; exact w)
  have rj1 : RJ tx n rf K0 S1 ((207, nI pk, 0) :: (nI 40, 0, 0) :: (200, 2, 0) :: (208, nI pk, 0) :: L1) (p + 1) n1 := rj.mvz k0 (f1.2.1 27 (by omega)) ps1 at0 (by omega) ⟨r7, by omega⟩ (r11.eq (fun x hx => f1.2.2.2.1 x hx) (by omega)) (by omega)
  -- the class's part
  have kc : ∀ (r : Nat) (K' : cp_K), (¬ (65 ≤ qpk K0 ∧ qpk K0 ≤ 90) → r = 0 ∧ K' = K0) → ((65 ≤ qpk K0 ∧ qpk K0 ≤ 90) → (¬ qpk (qlf K0 15 (qpk K0)) = 40 → r = 0 ∧ K' = qlf K0 15 (qpk K0)) ∧ (qpk (qlf K0 15 (qpk K0)) = 40 → ∃ r5 T3, KC 44 m_Q_readPieces (fun G => [.ref (cp_b G + 21), va_rf (kr G K0.1.1), .int 2, .int 1, .int 41]) (qtk (qlf K0 15 (qpk K0)) 40) (fun _ => some (.int r5)) T3 ∧ (r5 = 0 → r = 0 ∧ K' = T3) ∧ (¬ r5 = 0 → qok T3 ∧ (¬ qpk T3 = 61 → r = 0 ∧ K' = T3) ∧ (qpk T3 = 61 → KC 43 m_Q_withPiece (fun G => [.ref (cp_b G + 21), va_rf (kr G K0.1.1), .int 2, .int 1]) (qtk T3 61) (fun G => some (va_rf (kr G r))) K')))) → KC 60 m_Q_readPart (fun G => [.ref (cp_b G + 21)]) K (fun G => some (va_rf (kr G r))) K' := fun r K' w1 w2 => by
    have g141 : ∀ (T : cp_K) x1 p2, r = 0 → K' = T → JC 60 m_Q_readPart (fun G => .inl (some (va_rf (kr G r)))) K' 141 (fun G => [(0, .ref (cp_b G + 21)), (1, .int x1), (2, va_rf (kr G p2))]) (fun _ => []) T := fun T x1 p2 e1 e2 => b_Q_readPart_141 (D := 52) ⟨by rw [e1], e2⟩
    refine c_Q_readPart (D := 52) ?_
    unfold wp_Q_readPart_0
    rw [rj.pk hp, hq0, h63]
    refine ⟨r3, fun q => absurd q (by decide), fun _ => ⟨fun _ => ⟨fun _ => ⟨fun q => absurd q (ife1 rfl), fun _ => ⟨fun qL => ?_, fun qL => ?_⟩⟩, fun q => absurd (by decide) q⟩, fun q => absurd (by decide) q⟩⟩
    · have hL : 65 ≤ qpk K0 ∧ qpk K0 ≤ 90 := Classical.byContradiction (fun h => qL (if_neg h))
      obtain ⟨v1, v2⟩ := w2 hL
      refine ⟨fun q => ?_, fun q => ?_⟩
      · by_cases e : qpk (qlf K0 15 (qpk K0)) = 40
        · exact absurd q (ife1 e)
        · obtain ⟨e1, e2⟩ := v1 e
          rw [qtk_ne e]; exact g141 _ _ _ e1 e2
      · by_cases e : qpk (qlf K0 15 (qpk K0)) = 40
        · obtain ⟨r5, T3, u1, u2, u3⟩ := v2 e
          refine ⟨r5, T3, u1.mono (by omega), fun q5 => ?_, fun q5 => ?_⟩
          · obtain ⟨e1, e2⟩ := u2 q5
            exact g141 _ _ _ e1 e2
          · obtain ⟨y1, y2, y3⟩ := u3 q5
            refine ⟨y1, fun q => ?_, fun q => ?_⟩
            · by_cases e61 : qpk T3 = 61
              · exact absurd q (ife1 e61)
              · obtain ⟨e1, e2⟩ := y2 e61
                rw [qtk_ne e61]; exact g141 _ _ _ e1 e2
            · by_cases e61 : qpk T3 = 61
              · exact ⟨r, K', (y3 e61).mono (by omega), rfl, rfl⟩
              · exact absurd (ife0 e61) q
        · exact absurd (ife0 e) q
    · have hL : ¬ (65 ≤ qpk K0 ∧ qpk K0 ≤ 90) := fun h => by rw [if_pos h] at qL; exact absurd qL (by decide)
      obtain ⟨e1, e2⟩ := w1 hL
      rw [e1, e2]; exact ⟨rfl, rfl⟩
  have len1 : ((207, nI pk, 0) :: (nI 40, 0, 0) :: (200, 2, 0) :: (208, nI pk, 0) :: L1 : List cp_I).length ≤ 400 := by simp only [List.length_cons]; omega
  have n200 : ¬ may (200, 2, 0) := nmy (w := 200) rfl (by decide) (by decide) (by decide) (by decide)
  by_cases hp1 : p + 1 = n
  · have rj1' := rj1
    rw [hp1] at rj1'
    have nL : ¬ (65 ≤ qpk K0 ∧ qpk K0 ≤ 90) := by rw [rj1'.pk0]; decide
    refine Or.inl ⟨K0, S1, p + 1, kc 0 K0 (fun _ => ⟨rfl, rfl⟩) (fun q => absurd q nL), at0, ⟨by omega, by omega⟩, bp _ _ ?_, k0, f1, by omega⟩
    rw [hp1]
    exact rd_end_no ps1 len1 r5 List.mem_cons_self (nmy (w := 207) rfl (by decide) (by decide) (by decide) (by decide))
  have hp1' : p + 1 < n := by omega
  have hc1 : tx (p + 1) < 200 := by have := (r10 (p + 1) hp1').1; omega
  have pk0 := rj1.pk hp1'
  have c1 : S1.2 27 (p + 1) = nI (tx (p + 1)) := (rj1.2.2.2.1 _ hp1').2.2
  -- PROGRAM
  obtain ⟨S2, hS2⟩ : ∃ S2 : cp_S, S2 = ((popS S1 ((nI 40, 0, 0) :: (200, 2, 0) :: (208, nI pk, 0) :: L1 : List cp_I).length).1, va_up (va_up S1.2 45 (upd (S1.2 45) pk (nI (tx (p + 1)) - 65))) 48 (upd (S1.2 48) pk (nI (p + 1)))) := ⟨_, rfl⟩
  have s2 : ∀ q, q ≠ 45 → q ≠ 48 → S2.2 q = S1.2 q := fun q q1 q2 => by rw [hS2]; show va_up (va_up S1.2 45 _) 48 _ q = _; rw [cp_up_ne q2, cp_up_ne q1]
  have s2k : ∀ k, k ≠ 29 → S2.1 k = S1.1 k := fun k hk => by rw [hS2]; exact pop_1 hk
  have hS22 : S2.2 = va_up (va_up S1.2 45 (upd (S1.2 45) pk (nI (tx (p + 1)) - 65))) 48 (upd (S1.2 48) pk (nI (p + 1))) := by rw [hS2]
  have s245 : ∀ x, S2.2 45 x = if x = pk then nI (tx (p + 1)) - 65 else S1.2 45 x := fun x => by
    rw [hS22, cp_up_ne (by decide), va_up_at]
    by_cases hx : x = pk
    · rw [if_pos hx, hx, pk_us]
    · rw [if_neg hx, pk_un hx]
  have s248 : ∀ x, S2.2 48 x = if x = pk then nI (p + 1) else S1.2 48 x := fun x => by
    rw [hS22, va_up_at]
    by_cases hx : x = pk
    · rw [if_pos hx, hx, pk_us]
    · rw [if_neg hx, pk_un hx]
  have psq := PS.pop ps1
  have ps2 : PS S2 ((nI 40, 0, 0) :: (200, 2, 0) :: (208, nI pk, 0) :: L1) n1 rf := ⟨by rw [hS2]; exact psq.1, STK.mv _ psq.2.1 (fun q q1 q2 x _ => by rw [s2 q (by omega) (by omega), pop_2]), by rw [hS2]; exact psq.2.2.1, by rw [hS2]; exact psq.2.2.2⟩
  have f12 : RFY rf n1 l.length pk S1 S2 := ⟨fun k _ k2 _ _ => s2k k k2, fun q hq => s2 q (by omega) (by omega), fun q q1 q2 x _ => by rw [s2 q (by omega) (by omega)], fun x _ => by rw [s2 42 (by decide) (by decide)], fun q q1 q2 x hx => by
    by_cases e45 : q = 45
    · subst e45; rw [s245, if_neg (by omega)]
    · by_cases e48 : q = 48
      · subst e48; rw [s248, if_neg (by omega)]
      · rw [s2 q e45 e48], fun q q1 q2 x _ => by rw [s2 q (by omega) (by omega)]⟩
  have f2 : RFY rf n1 l.length pk S S2 := f1.trans f12 (Nat.le_refl _) (Nat.le_refl _) (Nat.le_refl _)
  have vpk : ∀ a, cp_ml a = 180 → vp_in (nI pk) (cp_ml a) := fun a ha => by rw [ha]; exact vp_in_nI (by omega) (by decide)
  have prog : ∀ (r : Int32), SC m_M_isLetter [.int (nI (tx (p + 1)))] (some (.int r)) → (r = 0 ∨ r = 1) → JT (some (.int r)) S2 (nI (tx (p + 1))) (nI (p + 1)) S1 := fun r hs hr => by
    have := tk_decl (c := nI (tx (p + 1))) (p := nI (p + 1)) (r := r) ps1 (by simp only [List.length_cons]; omega) (nsk (by show ¬ (207 : Int32) = 201; decide) (by show ¬ (207 : Int32) = 211; decide) (by show ¬ (207 : Int32) = 215; decide)) (by show (200 : Int32) ≤ 207; decide) (by show ¬ (209 : Int32) ≤ 207; decide) hr (td_207 (x3 := 0) (vpk 45 rfl) (vpk 48 rfl) hs hr)
    rw [nI_clamp (show pk < 2 ^ 31 by omega)] at this
    rw [hS2]
    exact this
  by_cases hLx' : ¬ isL (tx (p + 1))
  · have hL := hLx'
    have nL : ¬ (65 ≤ qpk K0 ∧ qpk K0 ≤ 90) := by rw [pk0]; exact fun q => hL ((isL_i (by omega)).mp q)
    exact Or.inl ⟨K0, S2, p + 1, kc 0 K0 (fun _ => ⟨rfl, rfl⟩) (fun q => absurd q nL), at0, ⟨by omega, by omega⟩, bp _ _ (rd_step hp1' r5 c1 (prog 0 (SC_L (by omega) (fun q => absurd q hL) (fun _ => rfl)) (Or.inl rfl)) (fun q => absurd rfl q) (fun _ => ⟨rfl, rfl⟩)), k0, f2, by omega⟩
  have hL : isL (tx (p + 1)) := Classical.byContradiction (fun h => hLx' h)
  have hL1' := hL.1
  have hL2' := hL.2
  have yL : 65 ≤ qpk K0 ∧ qpk K0 ≤ 90 := by rw [pk0]; exact (isL_i (by omega)).mpr hL
  have rd2 : ∀ o Sx, RD X n o Sx (p + 2) S2 → BPK X n o Sx S p a := fun o Sx w => bp _ _ (rd_step hp1' r5 c1 (prog 1 (SC_L (by omega) (fun _ => rfl) (fun q => absurd hL q)) (Or.inr rfl)) (fun _ => w) (fun q => absurd q (by decide)))
  obtain ⟨K1, hK1⟩ : ∃ K1 : cp_K, K1 = qlf K0 15 (nI (tx (p + 1))) := ⟨_, rfl⟩
  have h86 : 86 ≤ K0.1.1 := by omega
  have k01 : KRX K.1.1 K.1.1 K0 K1 := by rw [hK1]; exact KRX_leaf h86 (by omega) (by omega)
  have k1 : KRX K.1.1 K.1.1 K K1 := k0.trans k01 (Or.inl rfl) (Or.inl rfl)
  have n1e : K1.1.1 = K.1.1 + 1 := by rw [hK1, ql_n, n0]
  have at1 : K1.2.1 21 2 = nI (p + 2) := by rw [hK1, ql_21 h86, if_pos rfl, at0, nI_1]
  obtain ⟨w0, w1, w2, w3⟩ := ql_new (x := 15) (y := nI (tx (p + 1))) h86
  rw [← hK1, n0] at w0 w1 w2 w3
  have wr : ∀ g, K1.2.2.1 K.1.1 g = 0 := fun g => by rw [hK1, ← n0]; exact ql_rn
  have ndq : nd K1 K.1.1 9 := ⟨r4, by omega, k1.2.2.1 _ (Nat.le_refl _) (by omega)⟩
  have eK1 : qlf K0 15 (qpk K0) = K1 := by rw [pk0, hK1]
  rw [eK1, n0] at kc
  have rj2 : RJ tx n rf K1 S2 ((nI 40, 0, 0) :: (200, 2, 0) :: (208, nI pk, 0) :: L1) (p + 2) n1 := rj.mvz k1 (f2.2.1 27 (by omega)) ps2 at1 (by omega) ⟨r7, by omega⟩ (r11.eq (fun x hx => f2.2.2.2.1 x hx) (by omega)) (by omega)
  have len2 : ((nI 40, 0, 0) :: (200, 2, 0) :: (208, nI pk, 0) :: L1 : List cp_I).length ≤ 400 := by simp only [List.length_cons]; omega
  by_cases hp2 : p + 2 = n
  · have rj2' := rj2
    rw [hp2] at rj2'
    have q0 : ¬ qpk K1 = 40 := by rw [rj2'.pk0]; decide
    refine Or.inl ⟨K1, S2, p + 2, kc 0 K1 (fun q => absurd yL q) (fun _ => ⟨fun _ => ⟨rfl, rfl⟩, fun q => absurd q q0⟩), at1, ⟨by omega, by omega⟩, rd2 _ _ ?_, k1, f2, by omega⟩
    rw [hp2]
    exact rd_end_no ps2 len2 r5 (List.mem_cons_of_mem _ List.mem_cons_self) n200
  have hp2' : p + 2 < n := by omega
  have hc2 : tx (p + 2) < 200 := by have := (r10 (p + 2) hp2').1; omega
  have ch := rd_chr (X := X) (tx := tx) (wc := 40) ps2 (by simp only [List.length_cons]; omega) (by omega) hp2' r5 (rj2.2.2.2.1 _ hp2').2.2 hc2
  by_cases h40x' : ¬ tx (p + 2) = 40
  · have h40 := h40x'
    have q0 : ¬ qpk K1 = 40 := by rw [rj2.pk hp2']; exact nI_cc (a := 40) hc2 (by omega) h40
    exact Or.inl ⟨K1, _, p + 2, kc 0 K1 (fun q => absurd yL q) (fun _ => ⟨fun _ => ⟨rfl, rfl⟩, fun q => absurd q q0⟩), at1, ⟨by omega, by omega⟩, rd2 _ _ (ch.2 h40), k1, f2.trans pop_spo.rfy (Nat.le_refl _) (Nat.le_refl _) (Nat.le_refl _), by omega⟩
  have h40 : tx (p + 2) = 40 := Classical.byContradiction (fun h => h40x' h)
  have q40 : qpk K1 = 40 := by rw [rj2.pk hp2', h40]; rfl
  obtain ⟨K2, hK2⟩ : ∃ K2 : cp_K, K2 = kI K1 21 2 (nI (p + 3)) := ⟨_, rfl⟩
  have hq1 : qtk K1 40 = K2 := by rw [qtk_eq (p := 0) q40, at1, nI_1, hK2]
  rw [hq1] at kc
  have k12 : ∀ x y, KRX x y K1 K2 := fun x y => by rw [hK2]; exact KRX_at
  have k2 : KRX K.1.1 K.1.1 K K2 := k1.trans (k12 _ _) (Or.inl rfl) (Or.inl rfl)
  have n2e : K2.1.1 = K.1.1 + 1 := by rw [hK2]; exact n1e
  have i2 : ∀ x g, x ≠ 21 → K2.2.1 x g = K1.2.1 x g := fun x g hx => by rw [hK2, kI_i, cp_up_ne hx]
  have rr2 : ∀ x g, K2.2.2.1 x g = K1.2.2.1 x g := fun x g => by rw [hK2]; rfl
  obtain ⟨S3, hS3⟩ : ∃ S3 : cp_S, S3 = popS S2 ((200, 2, 0) :: (208, nI pk, 0) :: L1 : List cp_I).length := ⟨_, rfl⟩
  have ps3 : PS S3 ((200, 2, 0) :: (208, nI pk, 0) :: L1) n1 rf := by rw [hS3]; exact PS.pop ps2
  have s23 : SPO S2 S3 := by rw [hS3]; exact pop_spo
  have f3 : RFY rf n1 l.length pk S S3 := f2.trans s23.rfy (Nat.le_refl _) (Nat.le_refl _) (Nat.le_refl _)
  have rd3 : ∀ o Sx, RD X n o Sx (p + 3) S3 → BPK X n o Sx S p a := fun o Sx w => rd2 _ _ (ch.1 h40 o Sx (by rw [← hS3]; exact w))
  have at2 : K2.2.1 21 2 = nI (p + 3) := by rw [hK2, kI_i, va_up_at, va_up_at]
  have pieces : ∀ (r : Int32) (K' : cp_K), JC 44 m_Q_readPieces (fun _ => .inl (some (.int r))) K' 3 (LQ K.1.1 0 1 41 1) (fun _ => []) K2 → KC 44 m_Q_readPieces (fun G => [.ref (cp_b G + 21), va_rf (kr G K.1.1), .int 2, .int 1, .int 41]) K2 (fun _ => some (.int r)) K' := fun r K' w => c_Q_readPieces (D := 36) w
  have fail3 : ∀ (K' : cp_K), KC 44 m_Q_readPieces (fun G => [.ref (cp_b G + 21), va_rf (kr G K.1.1), .int 2, .int 1, .int 41]) K2 (fun _ => some (.int 0)) K' → KC 60 m_Q_readPart (fun G => [.ref (cp_b G + 21)]) K (fun G => some (va_rf (kr G 0))) K' := fun K' w => kc 0 K' (fun q => absurd yL q) (fun _ => ⟨fun q => absurd q40 q, fun _ => ⟨0, K', w, fun _ => ⟨rfl, rfl⟩, fun q => absurd rfl q⟩⟩)
  by_cases hp3 : p + 3 = n
  · have rj3 : RJ tx n rf K2 S3 ((200, 2, 0) :: (208, nI pk, 0) :: L1) n n1 := rj.mvz k2 (f3.2.1 27 (by omega)) ps3 (by rw [at2, hp3]) (Nat.le_refl _) ⟨r7, by omega⟩ (r11.eq (fun x hx => f3.2.2.2.1 x hx) (by omega)) (by omega)
    refine Or.inl ⟨K2, S3, n, fail3 K2 (pieces 0 K2 (b_Q_readPieces_3 (D := 36) ⟨fun h => absurd h (by decide), fun _ => ⟨0, K2, (withP_end (d := 1) rj3).mono (by omega), fun h => absurd rfl h, fun _ => ⟨rfl, rfl⟩⟩⟩)), rj3.1.1, ⟨by omega, Nat.le_refl _⟩, rd3 _ _ ?_, k2, f3, by omega⟩
    rw [hp3]
    exact rd_end_no ps3 (by simp only [List.length_cons]; omega) r5 List.mem_cons_self n200
  -- the terms
  obtain ⟨S4, hS4⟩ : ∃ S4 : cp_S, S4 = popS S3 ((208, nI pk, 0) :: L1 : List cp_I).length := ⟨_, rfl⟩
  have ps4 : PS S4 ((208, nI pk, 0) :: L1) n1 rf := by rw [hS4]; exact PS.pop ps3
  have s34 : SPO S3 S4 := by rw [hS4]; exact pop_spo
  have f4 : RFY rf n1 l.length pk S S4 := f3.trans s34.rfy (Nat.le_refl _) (Nat.le_refl _) (Nat.le_refl _)
  have rd4 : ∀ o Sx, BTK X n o Sx S4 (p + 3) 2 → BPK X n o Sx S p a := fun o Sx w => rd3 _ _ (rd_term ps3 (by simp only [List.length_cons]; omega) (by omega) r5 (bb := 2) (by decide) (by rw [← hS4]; exact w))
  have rj4 : RJ tx n rf K2 S4 (itC pk (0 + 1) :: L1) (p + 3) n1 := rj.mvz k2 (f4.2.1 27 (by omega)) ps4 at2 (by omega) ⟨r7, by omega⟩ (r11.eq (fun x hx => f4.2.2.2.1 x hx) (by omega)) (by omega)
  have z41 : ∀ q, q ≠ 45 → q ≠ 48 → q < 49 → S4.2 q = Sp.2 q := fun q q1 q2 q3 => by rw [s34.2, s23.2, s2 q q1 q2, sp1 q q3]
  have cn4 : cnC pk (0 + 1) S4 := by
    show S4.2 47 pk = nI 1
    rw [z41 47 (by decide) (by decide) (by decide)]; exact atp.2.2.2.1
  rcases gl_cond (X := X) (tx := tx) (n := n) (rf := rf) (l := L1) (pk := pk) (by omega) (by omega) K2 S4 (p + 3) n1 K.1.1 K2.1.1 rj4 (by omega) cn4 ⟨(k12 0 0).nd ndq, by rw [i2 _ _ (by omega)]; exact w3⟩ (Or.inl ⟨rfl, by rw [rr2]; exact wr 5, rfl⟩) with ⟨K', S', p', g1, g2, g3, g4, g5, g6, g7⟩ | ⟨K5, S5, p5, pe5, n15, m, l', qe, g1, g2, g3, g3', g4, ⟨g5, g6, g7, g8⟩, ⟨g9, -⟩, ⟨e1, e2, e3, e4, e5⟩, g11, g12, g14, g15, g16⟩
  · exact Or.inl ⟨K', S', p', fail3 K' (pieces 0 K' g1), g2, ⟨by omega, g3.2⟩, rd4 _ _ g4, k2.trans g5 (Or.inl rfl) (Or.inr (by omega)), f4.trans (g6.y (Nat.le_refl _)) (Nat.le_refl _) (by omega) (Nat.le_refl _), by omega⟩
  obtain ⟨-, rfl, hpe⟩ := g3'.resolve_right (fun q => absurd q.1 (by decide))
  obtain ⟨⟨b1, b2, b3, b4⟩, ps5, ⟨b5, b6, b7, b8, b9⟩, b10, b11⟩ := id g3
  have c47 : S5.2 47 pk = nI m := by have : S5.2 47 pk = nI (0 + m) := g8; rw [Nat.zero_add] at this; exact this
  rw [Nat.zero_add] at g7
  rw [n2e] at g4 g9 e4
  have k5 : KRX K.1.1 K.1.1 K K5 := k2.trans g11 (Or.inl rfl) (Or.inr (by omega))
  have f5 : RFY rf n1 l.length pk S S5 := f4.trans (g12.y (Nat.le_refl _)) (Nat.le_refl _) (by omega) (Nat.le_refl _)
  have rd5 : ∀ o Sx, RD X n o Sx p5 S5 → BPK X n o Sx S p a := fun o Sx w => rd4 _ _ (g2 _ _ w)
  have ch2 : ∀ (r : Nat) (K' : cp_K), (¬ qpk K5 = 61 → r = 0 ∧ K' = K5) → (qpk K5 = 61 → KC 43 m_Q_withPiece (fun G => [.ref (cp_b G + 21), va_rf (kr G K.1.1), .int 2, .int 1]) (qtk K5 61) (fun G => some (va_rf (kr G r))) K') → KC 60 m_Q_readPart (fun G => [.ref (cp_b G + 21)]) K (fun G => some (va_rf (kr G r))) K' := fun r K' v1 v2 => kc r K' (fun q => absurd yL q) (fun _ => ⟨fun q => absurd q40 q, fun _ => ⟨1, K5, pieces 1 K5 g1, fun q => absurd q (by decide), fun _ => ⟨b3, v1, v2⟩⟩⟩)
  have ps5' : PS S5 ((nI 61, 0, 0) :: (200, 2, 0) :: (205, nI (a + 1), 0) :: l) n15 rf := by rw [hL1] at ps5; exact ps5
  by_cases hp5 : p5 = n
  · subst hp5
    have q0 : ¬ qpk K5 = 61 := by rw [g3.pk0]; decide
    exact Or.inl ⟨K5, S5, p5, ch2 0 K5 (fun _ => ⟨rfl, rfl⟩) (fun q => absurd q q0), b1, ⟨by omega, by omega⟩, rd5 _ _ (rd_end_no ps5' (by simp; omega) r5 (List.mem_cons_of_mem _ List.mem_cons_self) n200), k5, f5, by omega⟩
  have hp5' : p5 < n := by omega
  have hc5 : tx p5 < 200 := by have := (r10 p5 hp5').1; omega
  have ch5 := rd_chr (X := X) (tx := tx) (wc := 61) ps5' (by simp; omega) (by omega) hp5' r5 (b10 p5 hp5').2.2 hc5
  by_cases h61x' : ¬ tx p5 = 61
  · have h61 := h61x'
    have q0 : ¬ qpk K5 = 61 := by rw [g3.pk hp5']; exact nI_cc (a := 61) hc5 (by omega) h61
    exact Or.inl ⟨K5, _, p5, ch2 0 K5 (fun _ => ⟨rfl, rfl⟩) (fun q => absurd q q0), b1, ⟨by omega, by omega⟩, rd5 _ _ (ch5.2 h61), k5, f5.trans pop_spo.rfy (Nat.le_refl _) (Nat.le_refl _) (Nat.le_refl _), by omega⟩
  have h61 : tx p5 = 61 := Classical.byContradiction (fun h => h61x' h)
  have q61 : qpk K5 = 61 := by rw [g3.pk hp5', h61]; rfl
  obtain ⟨K6, hK6⟩ : ∃ K6 : cp_K, K6 = kI K5 21 2 (nI (p5 + 1)) := ⟨_, rfl⟩
  have hq5 : qtk K5 61 = K6 := by rw [qtk_eq (p := 0) q61, b1, nI_1, hK6]
  rw [hq5] at ch2
  have k56 : ∀ x y, KRX x y K5 K6 := fun x y => by rw [hK6]; exact KRX_at
  have k6 : KRX K.1.1 K.1.1 K K6 := k5.trans (k56 _ _) (Or.inl rfl) (Or.inl rfl)
  have i6 : ∀ x g, x ≠ 21 → K6.2.1 x g = K5.2.1 x g := fun x g hx => by rw [hK6, kI_i, cp_up_ne hx]
  have rr6 : ∀ x g, K6.2.2.1 x g = K5.2.2.1 x g := fun x g => by rw [hK6]; rfl
  have n6 : K6.1.1 = K5.1.1 := by rw [hK6]; rfl
  have at6 : K6.2.1 21 2 = nI (p5 + 1) := by rw [hK6, kI_i, va_up_at, va_up_at]
  obtain ⟨S6, hS6⟩ : ∃ S6 : cp_S, S6 = popS S5 ((200, 2, 0) :: (205, nI (a + 1), 0) :: l : List cp_I).length := ⟨_, rfl⟩
  have ps6 : PS S6 ((200, 2, 0) :: (205, nI (a + 1), 0) :: l) n15 rf := by rw [hS6]; exact PS.pop ps5'
  have s56 : SPO S5 S6 := by rw [hS6]; exact pop_spo
  have f6 : RFY rf n1 l.length pk S S6 := f5.trans s56.rfy (Nat.le_refl _) (Nat.le_refl _) (Nat.le_refl _)
  have rd6 : ∀ o Sx, RD X n o Sx (p5 + 1) S6 → BPK X n o Sx S p a := fun o Sx w => rd5 _ _ (ch5.1 h61 o Sx (by rw [← hS6]; exact w))
  have pi6 : PLI S6 rf n15 (p5 + 1) := b11.eq (fun x _ => by rw [s56.2]) (by omega)
  by_cases hp6 : p5 + 1 = n
  · have rj6 : RJ tx n rf K6 S6 ((200, 2, 0) :: (205, nI (a + 1), 0) :: l) n n15 := rj.mvz k6 (f6.2.1 27 (by omega)) ps6 (by rw [at6, hp6]) (Nat.le_refl _) ⟨b7, by omega⟩ (by rw [← hp6]; exact pi6) (by omega)
    refine Or.inl ⟨K6, S6, n, ch2 0 K6 (fun q => absurd q61 q) (fun _ => (withP_end (d := 1) rj6).mono (by omega)), rj6.1.1, ⟨by omega, Nat.le_refl _⟩, rd6 _ _ ?_, k6, f6, by omega⟩
    rw [hp6]
    exact rd_end_no ps6 (by simp; omega) r5 List.mem_cons_self n200
  obtain ⟨S7, hS7⟩ : ∃ S7 : cp_S, S7 = popS S6 ((205, nI (a + 1), 0) :: l : List cp_I).length := ⟨_, rfl⟩
  have ps7 : PS S7 ((205, nI (a + 1), 0) :: l) n15 rf := by rw [hS7]; exact PS.pop ps6
  have s67 : SPO S6 S7 := by rw [hS7]; exact pop_spo
  have s57 := s56.trans s67
  have f7 : RFY rf n1 l.length pk S S7 := f6.trans s67.rfy (Nat.le_refl _) (Nat.le_refl _) (Nat.le_refl _)
  have rd7 : ∀ o Sx, BTK X n o Sx S7 (p5 + 1) 2 → BPK X n o Sx S p a := fun o Sx w => rd6 _ _ (rd_term ps6 (by simp; omega) (by omega) r5 (bb := 2) (by decide) (by rw [← hS7]; exact w))
  have rj7 : RJ tx n rf K6 S7 ((205, nI (a + 1), 0) :: l) (p5 + 1) n15 := rj.mvz k6 (f7.2.1 27 (by omega)) ps7 at6 (by omega) ⟨b7, by omega⟩ (b11.eq (fun x _ => by rw [s57.2]) (by omega)) (by omega)
  have lch := RCH.le (RTR.lt 8) _ _ _ _ _ _ g4
  rcases withP (X := X) (ql := qe) (pj_all 7) rj7 (by omega) (by rw [List.length_cons]; omega) ((k56 0 0).nd (g11.nd ((k12 0 0).nd ndq))) (Or.inr ⟨by rw [rr6]; exact e1, e3, (k56 0 0).nd e2⟩) with ⟨K', S', p', a1, a2, a3, a4, a5, a6, a7⟩ | ⟨K', S', p', n1', jk, a1, a2, a3, a4, a5, a6, ⟨a7, a8, -, a9⟩, a10, a11, a12, a13, a14⟩
  · exact Or.inl ⟨K', S', p', ch2 0 K' (fun q => absurd q61 q) (fun _ => a1), a2, ⟨by omega, a3.2⟩, rd7 _ _ a4, k6.trans a5 (Or.inr (by omega)) (Or.inr (by omega)), f7.trans a6.y (by omega) (by rw [List.length_cons]; omega) (Nat.le_refl _), by omega⟩
  · have qe86 := e2.1
    obtain ⟨a9a, a9b⟩ := a9 (by rw [rr6, e1]; omega)
    have lt := RTR.lt _ _ _ _ _ a5
    rw [n6] at a5 a6 a8 a9b
    have eq0 : ∀ g, g ≠ 3 → K'.2.1 K.1.1 g = K1.2.1 K.1.1 g := fun g hg => by rw [a10.2.2.2.1 K.1.1 (by omega) (by omega) g (Or.inr hg), i6 _ _ (by omega), g11.2.2.2.1 K.1.1 (by omega) (by omega) g (Or.inr hg), i2 _ _ (by omega)]
    have sb : ∀ x, n1 ≤ x → x < n15 → S'.2 39 x = S5.2 39 x ∧ S'.2 40 x = S5.2 40 x ∧ S'.2 41 x = S5.2 41 x ∧ S'.2 42 (x - rf) = S5.2 42 (x - rf) := fun x x1 x2 => ⟨by rw [a11.2.2.1 39 (by omega) (by omega) x x2 (Or.inl (by omega)), s57.2], by rw [a11.2.2.1 40 (by omega) (by omega) x x2 (Or.inl (by omega)), s57.2], by rw [a11.2.2.1 41 (by omega) (by omega) x x2 (Or.inl (by omega)), s57.2], by rw [a11.2.2.2.1 _ (by omega), s57.2]⟩
    obtain ⟨z1, z2⟩ := RCH.snoc (K := K5) (K2 := K') (b := S5.2) (b2 := S'.2) (by have := a10.1; omega) a5 a6 a9b m (K.1.1 + 1) n1 (K.1.1 + 1) g4 e4 (fun x x1 x2 => ⟨fun g => by rw [a10.2.2.2.1 x (by omega) (by omega) g (Or.inl (by omega)), i6 _ _ (by omega)], by rw [a10.2.1 x (by omega)]; exact (k56 0 0).2.1 x (by omega), by rw [a10.2.2.2.2.2.1 x (by omega) 4 (Or.inl (by omega)) (Or.inr (by decide)), rr6], fun hx => by rw [a10.2.2.2.2.2.1 x (by omega) 6 (Or.inl (by omega)) (Or.inl hx), rr6]⟩) sb
    have z4 : ∀ g, 44 ≤ g → g ≤ 48 → S'.2 g = S5.2 g := fun g q1 q2 => by rw [a11.2.1 g (by omega), s57.2]
    have y4 : ∀ g, 44 ≤ g → g ≤ 48 → g ≠ 47 → S'.2 g pk = S2.2 g pk := fun g q1 q2 q3 => by rw [z4 g q1 q2, g12.2.2.2.2.1 g q1 q2 pk (Or.inr q3), s34.2, s23.2]
    refine Or.inr ⟨K', S', p', n1', jk, ch2 _ K' (fun q => absurd q61 q) (fun _ => a1), fun r Sx w => rd7 _ _ (a2 r Sx w), a3, a4, ⟨a10.nd ((k56 0 0).nd (g11.nd ((k12 0 0).nd ndq))), by omega, by omega, ?_, ?_, Or.inl ⟨by rw [eq0 0 (by decide)]; exact w0, ?_, ⟨p + 1, by omega, ?_⟩, ?_, tx (p + 1) - 65, m, by omega, by omega, ?_, ?_, by rw [z4 47 (by omega) (by omega)]; exact c47, ?_, z1, ?_⟩⟩, ?_, ?_, k6.trans a10 (Or.inl rfl) (Or.inr (by omega)), f7.trans a11.y (by omega) (by rw [List.length_cons]; omega) (Nat.le_refl _), ?_, by omega, by omega⟩
    · rw [y4 46 (by omega) (by omega) (by decide), s2 46 (by decide) (by decide), sp1 46 (by decide)]; exact p46
    · rw [a9a, rr6]; exact g9 rfl
    · rw [y4 44 (by omega) (by omega) (by decide), s2 44 (by decide) (by decide), sp1 44 (by decide)]; exact atp.1
    · rw [eq0 2 (by decide), w2]; exact at0
    · rw [eq0 2 (by decide), w2, at0, y4 48 (by omega) (by omega) (by decide), s248, if_pos rfl]
    · rw [eq0 1 (by decide), w1]; congr 1; omega
    · rw [y4 45 (by omega) (by omega) (by decide), s245, if_pos rfl]
      exact pk_sub (a := tx (p + 1)) (b := 65) hL1'
    · rw [a7, i6 _ _ (by omega), g7, nI_1]
    · rw [a8]; exact z2
    · rw [a10.2.2.2.2.2.1 K.1.1 (by omega) 6 (Or.inr ⟨by decide, by decide⟩) (Or.inl (by omega)), rr6, g11.2.2.2.2.2.1 K.1.1 (by omega) 6 (Or.inr ⟨by decide, by decide⟩) (Or.inl (by omega)), rr2]; exact wr 6
    · rw [a11.1 33 (by decide) (by decide), s57.1 33 (by decide), g12.1 33 (by decide) (by decide) (by decide), s34.1 33 (by decide), s23.1 33 (by decide), s2k 33 (by decide), sp1' 33 (by decide)]; exact sp33
    · have t1 : TV S'.2 (p + 3) pe5 n1 n15 := g14.v.loc (fun x x1 x2 => ⟨(sb x x1 x2).1, (sb x x1 x2).2.2.1⟩)
      exact (t1.join a12.v (by omega)).wk (by omega) (Nat.le_refl _)
end CPPC
