/-! ===== reading codes: a pattern, both sides ===== -/
section CPR4B
variable {X : Int32 × Int32 × Int32} {n p rf n1 : Nat} {S : cp_S} {l : List cp_I}
theorem ns214 {c a b : Int32} : ¬ SKP c (214, a, b) := nsk (by show ¬ (214 : Int32) = 201; decide) (by show ¬ (214 : Int32) = 211; decide) (by show ¬ (214 : Int32) = 215; decide)
theorem rp_of {c : Nat} {r : Int32} {T : cp_S} {o : Option Value} {Sx : cp_S} (h : PS S ((214, 0, 0) :: l) n1 rf) (hl : l.length < 400) (hp : p < n) (hn : n ≤ 80) (hc : S.2 27 p = nI c) (hr : r = 0 ∨ r = 1) (w : MC 1 m_M_beginPattern [.int (nI c), .int (nI p)] (popS S l.length) (some (.int r)) T) (w1 : ¬ r = 0 → RD X n o Sx (p + 1) T) (w0 : r = 0 → o = some (.int (nI p)) ∧ Sx = T) : RD X n o Sx p S := rd_step hp hn hc (tk_code (r := r) h hl ns214 (by show (200 : Int32) ≤ 214; decide) (by show (209 : Int32) ≤ 214; decide) hr (tc_pat w hr)) w1 w0
theorem rp_fail {c : Nat} (h : PS S ((214, 0, 0) :: l) n1 rf) (hl : l.length < 400) (hp : p < n) (hn : n ≤ 80) (hc : S.2 27 p = nI c) (hc2 : c < 200) (n95 : ¬ c = 95) (ndg : ¬ isD c) (nl : ¬ isL c) : ∃ T, SPO S T ∧ RD X n (some (.int (nI p))) T p S := ⟨popS S l.length, pop_spo, rp_of h hl hp hn hc (Or.inl rfl) (c_M_beginPattern (b_M_beginPattern_0 ⟨0, SC_L (by omega) (fun q => absurd q nl) (fun _ => rfl), fun _ => ⟨fun q => absurd q (nI_cc (a := 95) hc2 (by omega) n95), fun _ => ⟨0, SC_D (by omega) (fun q => absurd q ndg) (fun _ => rfl), fun q => absurd rfl q, fun _ => ⟨rfl, rfl, rfl⟩⟩⟩, fun q => absurd rfl q⟩)) (fun q => absurd rfl q) (fun _ => ⟨rfl, rfl⟩)⟩
theorem rp_leaf {c : Nat} {x : Int32} {o : Option Value} {Sx : cp_S} (h : PS S ((214, 0, 0) :: l) n1 rf) (hl : l.length < 400) (hp : p < n) (hn : n ≤ 80) (hc : S.2 27 p = nI c) (hc2 : c < 200) (hn1 : n1 < 2720) (hr : rf ≤ n1) (hr2 : n1 - rf < 82) (hk : (c = 95 ∧ x = 11) ∨ (isD c ∧ x = 12)) (w : RD X n o Sx (p + 1) (ndS (popS S l.length) n1 rf x (nI (c - 48)) (nI p))) : RD X n o Sx p S := by
  have l48 : 48 ≤ c := by rcases hk with h | h; omega; exact h.1.1
  have nl : ¬ isL c := fun q => by rcases hk with h | h; have := q.2; omega; have := h.1.2; have := q.1; omega
  have nod : MC 0 m_M_node [.int x, .int (nI c - 48), .int (nI p)] (popS S l.length) (some (.int (nI n1))) (ndS (popS S l.length) n1 rf x (nI (c - 48)) (nI p)) := by
    rw [show nI c - 48 = nI (c - 48) from pk_sub (a := c) (b := 48) l48]; exact MC_node (PS.pop h) hn1 hr hr2
  have b43 : JJ 1 m_M_beginPattern (some (.int 1)) (ndS (popS S l.length) n1 rf x (nI (c - 48)) (nI p)) 43 [(1, .int (nI c)), (2, .int (nI p))] (popS S l.length) := by
    refine b_M_beginPattern_43 ⟨fun q => ?_, fun q => ?_⟩
    · rcases hk with ⟨k1, k2⟩ | ⟨k1, k2⟩
      · exact absurd (by rw [k1]; rfl) q
      · subst k2; exact ⟨nI n1, _, nod, rfl, rfl, rfl⟩
    · rcases hk with ⟨k1, k2⟩ | ⟨k1, k2⟩
      · subst k2; exact ⟨nI n1, _, nod, rfl, rfl, rfl⟩
      · have := (nI_ch (c := c) (a := 95) (by omega) (by omega)).mp q
        have := k1.2; omega
  refine rp_of h hl hp hn hc (r := 1) (Or.inr rfl) (c_M_beginPattern (b_M_beginPattern_0 ⟨0, SC_L (by omega) (fun q => absurd q nl) (fun _ => rfl), fun _ => ⟨fun _ => b43, fun q95 => ?_⟩, fun q => absurd rfl q⟩)) (fun _ => w) (fun q => absurd q (by decide))
  rcases hk with ⟨k1, k2⟩ | ⟨k1, k2⟩
  · exact absurd (by rw [k1]; rfl) q95
  · exact ⟨1, SC_D (by omega) (fun _ => rfl) (fun q => absurd k1 q), fun _ => b43, fun q => absurd q (by decide)⟩
theorem rp_let {c : Nat} {o : Option Value} {Sx : cp_S} (h : PS S ((214, 0, 0) :: l) n1 rf) (hl : l.length + 1 < 400) (hp : p < n) (hn : n ≤ 80) (hc : S.2 27 p = nI c) (hn1 : n1 < 2720) (hr : rf ≤ n1) (hr2 : n1 - rf < 82) (hL : isL c) (w : RD X n o Sx (p + 1) (pshS (ndS (popS S l.length) n1 rf 13 (nI (c - 65)) (nI p)) l.length 215 (nI n1) 0)) : RD X n o Sx p S := by
  have l1 := hL.1
  have l2 := hL.2
  refine rp_of h (by omega) hp hn hc (r := 1) (Or.inr rfl) (c_M_beginPattern (b_M_beginPattern_0 ⟨1, SC_L (by omega) (fun _ => rfl) (fun q => absurd hL q), fun q => absurd q (by decide), fun _ => ⟨nI n1, ndS (popS S l.length) n1 rf 13 (nI (c - 65)) (nI p), ?_, _, MC_push (PS.node (PS.pop h)) (by omega), rfl, rfl, rfl⟩⟩)) (fun _ => w) (fun q => absurd q (by decide))
  rw [show nI c - 65 = nI (c - 65) from pk_sub (a := c) (b := 65) l1]
  exact MC_node (PS.pop h) hn1 hr hr2
theorem rd_mnames {i0 : Nat} {o : Option Value} {Sx : cp_S} (h : PS S ((215, nI i0, 0) :: l) n1 rf) (hl : l.length + 1 < 400) (hp : p < n) (hn : n ≤ 80) (hc : S.2 27 p = nI 40) (w : RD X n o Sx (p + 1) (pshS (popS S l.length) l.length 216 (nI i0) 0)) : RD X n o Sx p S := by
  have hs : ¬ SKP (nI 40) (215, nI i0, 0) := by
    rintro (⟨a, -⟩ | ⟨a, -⟩ | ⟨-, a⟩)
    · exact absurd (show (215 : Int32) = 201 from a) (by decide)
    · exact absurd (show (215 : Int32) = 211 from a) (by decide)
    · exact a rfl
  exact rd_step hp hn hc (tk_code (r := 1) h (by omega) hs (by show (200 : Int32) ≤ 215; decide) (by show (209 : Int32) ≤ 215; decide) (Or.inr rfl) (tc_215 (MC_push (PS.pop h) (by omega)))) (fun _ => w) (fun q => absurd q (by decide))
end CPR4B
abbrev LCS (d q q1 : Nat) : cp_G → List (Nat × Value) := fun G => [(0, .ref (cp_b G + 21)), (1, .int (nI (d + 1))), (2, va_rf (kr G q)), (3, va_rf (kr G q1))]
abbrev KCS (f d r : Nat) (K K' : cp_K) : Prop := KC (12 + 6 * f) m_Q_readCase (fun G => [.ref (cp_b G + 21), .int (nI (d + 1))]) K (fun G => some (va_rf (kr G r))) K'
theorem case_kc {f d r4 r p : Nat} {K K1 K' : cp_K} (h86 : 86 ≤ K.1.1) (hat : K.2.1 21 2 = nI p) (hph : KC 8 m_Q_readPatternHead (fun G => [.ref (cp_b G + 21)]) (nn K 10 0 (nI p)) (fun G => some (va_rf (kr G r4))) K1) (w0 : r4 = 0 → r = 0 ∧ K' = K1) (w1 : ¬ r4 = 0 → nd K1 K.1.1 9 ∧ (¬ K1.2.2.1 K.1.1 5 = 0 → nd K1 (K1.2.2.1 K.1.1 5) 9) ∧ nd K1 r4 9 ∧ (¬ (nadd K1 K.1.1 r4).2.1 r4 0 = 6 → JC (12 + 6 * f) m_Q_readCase (fun G => .inl (some (va_rf (kr G r)))) K' 63 (LCS d K.1.1 r4) (fun _ => []) (nadd K1 K.1.1 r4)) ∧ ((nadd K1 K.1.1 r4).2.1 r4 0 = 6 → qok K1 ∧ (¬ qpk (nadd K1 K.1.1 r4) = 40 → JC (12 + 6 * f) m_Q_readCase (fun G => .inl (some (va_rf (kr G r)))) K' 63 (LCS d K.1.1 r4) (fun _ => []) (nadd K1 K.1.1 r4)) ∧ (qpk (nadd K1 K.1.1 r4) = 40 → ∃ r11 T9, KC 8 m_Q_readVariables (fun G => [.ref (cp_b G + 21), va_rf (kr G r4), .int 6, .int 41]) (qtk (nadd K1 K.1.1 r4) 40) (fun _ => some (.int r11)) T9 ∧ (¬ r11 = 0 → JC (12 + 6 * f) m_Q_readCase (fun G => .inl (some (va_rf (kr G r)))) K' 63 (LCS d K.1.1 r4) (fun _ => []) T9) ∧ (r11 = 0 → r = 0 ∧ K' = T9)))) : KCS f d r K K' := by
  have e21 : (kN K 9).2.1 21 2 = nI p := by
    show va_up K.2.1 K.1.1 (fun _ => 0) 21 2 = nI p
    rw [cp_up_ne (by omega)]; exact hat
  rw [show 12 + 6 * f = 4 + 6 * f + 8 by omega] at w1
  refine (c_Q_readCase (D := 4 + 6 * f) ?_).mono (by omega)
  unfold wp_Q_readCase_0
  rw [e21]
  refine ⟨r4, K1, hph.mono (by omega), fun q => ?_, fun q => ?_⟩
  · obtain ⟨v1, v2, v3, v4, v5⟩ := w1 q
    refine ⟨v1, v2, v3, v4, fun q6 => ?_⟩
    obtain ⟨u1, u2, u3⟩ := v5 q6
    refine ⟨u1, fun q => ?_, fun q => ?_⟩
    · by_cases e : qpk (nadd K1 K.1.1 r4) = 40
      · exact absurd q (ife1 e)
      · rw [qtk_ne e]; exact u2 e
    · by_cases e : qpk (nadd K1 K.1.1 r4) = 40
      · obtain ⟨r11, T9, x1, x2, x3⟩ := u3 e
        refine ⟨r11, T9, x1.mono (by omega), x2, fun q => ?_⟩
        obtain ⟨e1, e2⟩ := x3 q
        rw [e1, e2]; exact ⟨rfl, rfl⟩
      · exact absurd (ife0 e) q
  · obtain ⟨e1, e2⟩ := w0 q
    rw [e1, e2]; exact ⟨rfl, rfl⟩
section CPPA2
variable {X : Int32 × Int32 × Int32} {tx : Nat → Nat} {n rf : Nat} {K : cp_K} {S : cp_S} {L : List cp_I} {p n1 f d : Nat}
def PTO (X : Int32 × Int32 × Int32) (tx : Nat → Nat) (n rf f d : Nat) (K : cp_K) (S : cp_S) (L : List cp_I) (p n1 : Nat) : Prop := ∃ (K3 : cp_K) (S3 : cp_S) (p3 : Nat) (jk : List cp_I) (vs : List Nat), (∀ (r : Nat) (K' : cp_K), JC (12 + 6 * f) m_Q_readCase (fun G => .inl (some (va_rf (kr G r)))) K' 63 (LCS d K.1.1 (K.1.1 + 1)) (fun _ => []) K3 → KCS f d r K K') ∧ (∀ r Sx, RD X n r Sx p3 S3 → RD X n r Sx p S) ∧ RJ tx n rf K3 S3 (jk ++ L) p3 (n1 + 1 + vs.length) ∧ JPK tx n p3 jk ∧ PTI K3 S3.2 rf (K.1.1 + 1) n1 vs ∧ K3.1.1 = K.1.1 + 2 + vs.length ∧ (nd K3 K.1.1 9 ∧ K3.2.1 K.1.1 0 = 10 ∧ K3.2.2.1 K.1.1 4 = K.1.1 + 1 ∧ K3.2.2.1 K.1.1 5 = K.1.1 + 1 ∧ K3.2.2.1 K.1.1 6 = 0 ∧ nd K3 (K.1.1 + 1) 9) ∧ KRX K.1.1 K.1.1 K K3 ∧ RFX rf n1 L.length n1 S S3 ∧ p + 1 + vs.length ≤ p3
def PTF (X : Int32 × Int32 × Int32) (n rf f d : Nat) (K : cp_K) (S : cp_S) (L : List cp_I) (p n1 : Nat) : Prop := ∃ (K' : cp_K) (S' : cp_S) (p' : Nat), KCS f d 0 K K' ∧ K'.2.1 21 2 = nI p' ∧ (p ≤ p' ∧ p' ≤ n) ∧ RD X n (some (.int (nI p'))) S' p S ∧ KRX K.1.1 K.1.1 K K' ∧ RFX rf n1 L.length n1 S S' ∧ K'.1.1 ≤ K.1.1 + (p' - p) + 1
/-- a pattern, both sides -/
theorem patAt (rj : RJ tx n rf K S ((214, 0, 0) :: L) p n1) (hL : L.length ≤ 300) : PTF X n rf f d K S L p n1 ∨ PTO X tx n rf f d K S L p n1 := by
  obtain ⟨⟨r1, r2, r3, r4⟩, ps, ⟨r5, r6, r7, r8, r9⟩, r10, r11⟩ := id rj
  obtain ⟨K0, hK0⟩ : ∃ K0 : cp_K, K0 = nn K 10 0 (nI p) := ⟨_, rfl⟩
  have k0 : KRX K.1.1 K.1.1 K K0 := by rw [hK0]; exact KRX_nn r4 (Nat.le_refl _) (Nat.le_refl _)
  have n0 : K0.1.1 = K.1.1 + 1 := by rw [hK0]; exact nn_n
  have nd0 : nd K0 K.1.1 9 := by rw [hK0]; exact nn_nd r4
  obtain ⟨w0, w1, w2, w3⟩ := nn_new (K := K) (x := 10) (y := 0) (z := nI p)
  rw [← hK0] at w0 w1 w2 w3
  have wr : ∀ g, K0.2.2.1 K.1.1 g = 0 := fun g => by rw [hK0]; exact nn_rn
  have i21 : K0.2.1 21 = K.2.1 21 := by rw [hK0]; exact nn_i (by omega)
  have rj0 : RJ tx n rf K0 S ((214, 0, 0) :: L) p n1 := rj.mvz k0 rfl ps (by rw [i21]; exact r1) r6 ⟨r7, r8⟩ r11 (by omega)
  have h860 : 86 ≤ K0.1.1 := by omega
  have nul : KC 8 m_Q_readPatternHead (fun G => [.ref (cp_b G + 21)]) K0 (fun G => some (va_rf (kr G 0))) K0 → KCS f d 0 K K0 := fun w => by rw [hK0] at w; exact case_kc r4 r1 w (fun _ => ⟨rfl, by rw [hK0]⟩) (fun q => absurd rfl q)
  by_cases hpn : p = n
  · subst hpn
    refine Or.inl ⟨K0, S, p, nul (c_Q_readPatternHead (D := 0) ?_), rj0.1.1, ⟨Nat.le_refl _, Nat.le_refl _⟩, rd_end_no ps (by rw [List.length_cons]; omega) r5 List.mem_cons_self (nmy (w := 214) rfl (by decide) (by decide) (by decide) (by decide)), k0, RFX.refl, by omega⟩
    unfold wp_Q_readPatternHead_0
    rw [rj0.pk0]
    exact ⟨rj0.1.2.2.1, fun _ => ⟨fun _ => ⟨fun _ => ⟨rfl, rfl⟩, fun q => absurd (by decide) q⟩, fun q => absurd (by decide) q⟩, fun q => absurd q (by decide)⟩
  have hp : p < n := by omega
  have hc : tx p < 200 := by have := (r10 p hp).1; omega
  have ctx := (r10 p hp).2.2
  have pk0 := rj0.pk hp
  have ok0 := rj0.1.2.2.1
  by_cases hk0 : ¬ (tx p = 95 ∨ isD (tx p) ∨ isL (tx p))
  · have n95 : ¬ tx p = 95 := fun h => hk0 (Or.inl h)
    have ndg : ¬ isD (tx p) := fun h => hk0 (Or.inr (Or.inl h))
    have nl : ¬ isL (tx p) := fun h => hk0 (Or.inr (Or.inr h))
    obtain ⟨T, t1, t2⟩ := rp_fail (X := X) ps (by omega) hp r5 ctx hc n95 ndg nl
    refine Or.inl ⟨K0, T, p, nul (c_Q_readPatternHead (D := 0) ?_), rj0.1.1, ⟨Nat.le_refl _, r6⟩, t2, k0, t1.rfx, by omega⟩
    unfold wp_Q_readPatternHead_0
    rw [pk0]
    exact ⟨ok0, fun _ => ⟨fun _ => ⟨fun _ => ⟨rfl, rfl⟩, fun q => absurd (ifL0 hc nl) q⟩, fun q => absurd (ifD0 hc ndg) q⟩, fun q => absurd q (nI_cc (a := 95) hc (by omega) n95)⟩
  have hk : tx p = 95 ∨ isD (tx p) ∨ isL (tx p) := Classical.byContradiction (fun h => hk0 h)
  -- the head
  obtain ⟨x, y, hxy⟩ : ∃ x y : Int32, (tx p = 95 ∧ x = 4 ∧ y = 0) ∨ (isD (tx p) ∧ x = 1 ∧ y = nI (tx p - 48)) ∨ (isL (tx p) ∧ x = 6 ∧ y = nI (tx p)) := by
    rcases hk with h | h | h
    · exact ⟨4, 0, Or.inl ⟨h, rfl, rfl⟩⟩
    · exact ⟨1, _, Or.inr (Or.inl ⟨h, rfl, rfl⟩)⟩
    · exact ⟨6, _, Or.inr (Or.inr ⟨h, rfl, rfl⟩)⟩
  have ph : KC 8 m_Q_readPatternHead (fun G => [.ref (cp_b G + 21)]) K0 (fun G => some (va_rf (kr G K0.1.1))) (qlf K0 x y) := by
    refine c_Q_readPatternHead (D := 0) ?_
    unfold wp_Q_readPatternHead_0
    rw [pk0]
    rcases hxy with ⟨h1, h2, h3⟩ | ⟨h1, h2, h3⟩ | ⟨h1, h2, h3⟩
    · exact ⟨ok0, fun q => absurd (by rw [h1]; rfl) q, fun _ => ⟨rfl, by rw [h2, h3]⟩⟩
    · exact ⟨ok0, fun _ => ⟨fun q => absurd q (ifD1 hc h1), fun _ => ⟨rfl, by rw [h2, h3, show nI (tx p) - 48 = nI (tx p - 48) from pk_sub (a := tx p) (b := 48) h1.1]⟩⟩, fun q => by have := (nI_ch (c := tx p) (a := 95) (by omega) (by omega)).mp q; have := h1.2; omega⟩
    · exact ⟨ok0, fun _ => ⟨fun _ => ⟨fun q => absurd q (ifL1 hc h1), fun _ => ⟨rfl, by rw [h2, h3]⟩⟩, fun q => absurd (ifD0 hc (fun h => by have := h.2; have := h1.1; omega)) q⟩, fun q => by have := (nI_ch (c := tx p) (a := 95) (by omega) (by omega)).mp q; have := h1.2; omega⟩
  have k1 : KRX K0.1.1 K0.1.1 K0 (qlf K0 x y) := KRX_leaf h860 (Nat.le_refl _) (Nat.le_refl _)
  have n1e : (qlf K0 x y).1.1 = K0.1.1 + 1 := ql_n
  obtain ⟨v0, v1, v2, v3⟩ := ql_new (K := K0) (x := x) (y := y) h860
  have vr : ∀ g, (qlf K0 x y).2.2.1 K0.1.1 g = 0 := fun g => ql_rn
  have at1 : (qlf K0 x y).2.1 21 2 = nI (p + 1) := by rw [ql_21 h860, if_pos rfl, rj0.1.1, nI_1]
  have nc1 : nd (qlf K0 x y) K0.1.1 9 := ⟨h860, by omega, ql_ts⟩
  have ok1 : qok (qlf K0 x y) := qok_qlf ok0 h860
  obtain ⟨⟨nq1, nql1⟩, k02, ⟨qx, hqx, kx2⟩, n2, c3, c5, c4, -, c21⟩ := addK (c := K0.1.1) k1 nd0 (Or.inl ⟨wr 5, rfl⟩)
  obtain ⟨K1, hK1⟩ : ∃ K1 : cp_K, K1 = qlf K0 x y := ⟨_, rfl⟩
  rw [← hK1] at ph k1 n1e v0 v1 v2 v3 vr at1 nc1 ok1 nq1 nql1 k02 hqx kx2 n2 c3 c5 c4 c21
  obtain ⟨K2, hK2⟩ : ∃ K2 : cp_K, K2 = nadd K1 K.1.1 K0.1.1 := ⟨_, rfl⟩
  rw [← hK2] at k02 kx2 n2 c3 c5 c4 c21
  rw [n0] at ph n1e v0 v1 v2 v3 vr nc1 c5 c4 hK2
  have c4' := c4 (wr 5)
  have i2 : ∀ g, K2.2.1 (K.1.1 + 1) g = K1.2.1 (K.1.1 + 1) g := fun g => kx2.2.2.2.1 _ (by omega) (by omega) g (Or.inl (by omega))
  have r2' : ∀ g, K2.2.2.1 (K.1.1 + 1) g = 0 := fun g => by rw [kx2.2.2.2.2.2.1 _ (by omega) g (Or.inl (by omega)) (Or.inl (by omega))]; exact vr g
  have iq : K2.2.1 K.1.1 0 = 10 := by rw [k02.2.2.2.1 K.1.1 (by omega) (by omega) 0 (Or.inr (by decide))]; exact w0
  have rq6 : K2.2.2.1 K.1.1 6 = 0 := by rw [k02.2.2.2.2.2.1 K.1.1 (by omega) 6 (Or.inr ⟨by decide, by decide⟩) (Or.inl (by omega))]; exact wr 6
  have nq2 : nd K2 K.1.1 9 := k02.nd nd0
  have nc2 : nd K2 (K.1.1 + 1) 9 := kx2.nd nc1
  have at2 : K2.2.1 21 2 = nI (p + 1) := by rw [c21]; exact at1
  have kxA : KRX K.1.1 K.1.1 K K2 := k0.trans k02 (Or.inl rfl) (Or.inr (by omega))
  have pl2 : K2.2.1 (K.1.1 + 1) 2 = nI p := by rw [i2, v2]; exact rj0.1.1
  rw [hK0] at ph
  have ck := fun (r : Nat) (K' : cp_K) => case_kc (f := f) (d := d) (r := r) (K' := K') (K := K) (K1 := K1) (r4 := K.1.1 + 1) r4 r1 ph (fun q => absurd q (by omega))
  rw [← hK2] at ck
  have sp0 : SPO S (popS S L.length) := pop_spo
  by_cases hleaf : ¬ isL (tx p)
  · obtain ⟨x', hx'⟩ : ∃ x' : Int32, (tx p = 95 ∧ x' = 11) ∨ (isD (tx p) ∧ x' = 12) := by
      rcases hk with h | h | h
      · exact ⟨11, Or.inl ⟨h, rfl⟩⟩
      · exact ⟨12, Or.inr ⟨h, rfl⟩⟩
      · exact absurd h hleaf
    have hx6 : ¬ x = 6 := by
      rcases hxy with ⟨-, h, -⟩ | ⟨-, h, -⟩ | ⟨h, -⟩
      · rw [h]; decide
      · rw [h]; decide
      · exact absurd h hleaf
    obtain ⟨S3, hS3⟩ : ∃ S3 : cp_S, S3 = ndS (popS S L.length) n1 rf x' (nI (tx p - 48)) (nI p) := ⟨_, rfl⟩
    have ps3 : PS S3 L (n1 + 1) rf := by rw [hS3]; exact PS.node (PS.pop ps)
    have f3 : RFX rf n1 L.length n1 S S3 := by rw [hS3]; exact sp0.rfx.trans (nds_rfx (len := L.length) (i0 := n1)) (Nat.le_refl _) (Nat.le_refl _) (Or.inl rfl)
    obtain ⟨e1, e2, e3⟩ := nds_at (S := popS S L.length) (n1 := n1) (rf := rf) (x := x') (v := nI (tx p - 48)) (p := nI p)
    have e4 : (ndS (popS S L.length) n1 rf x' (nI (tx p - 48)) (nI p)).2 42 (n1 - rf) = nI p := by rw [nds_42, if_pos rfl]
    have piT : PLI S3 rf (n1 + 1) (p + 1) := (r11.node (x := x') (v := nI (tx p - 48)) r7).eq (fun z _ => by rw [hS3]; rfl) (Nat.le_refl _)
    rw [← hS3] at e1 e2 e3 e4
    have rj3 : RJ tx n rf K2 S3 L (p + 1) (n1 + 1) := rj.mvz kxA (f3.2.1 27 (by omega)) ps3 at2 (by omega) ⟨by omega, by omega⟩ piT (by omega)
    refine Or.inr ⟨K2, S3, p + 1, [], [], fun r K' w => ck r K' (fun _ => ⟨nq1, nql1, nc1, fun _ => w, fun q6 => ?_⟩), fun r Sx w => rp_leaf ps (by omega) hp r5 ctx hc (by omega) r7 (by omega) hx' (by rw [← hS3]; exact w), rj3, JPK.nil, ⟨nc2, by rw [pl2, e4], by simp, e3, by rw [i2]; exact v3, fun t h => absurd h (by simp), r2' 4, ?_⟩, by rw [n2, n1e]; rfl, ⟨nq2, iq, c4', c5, rq6, nc2⟩, kxA, f3, by simp⟩
    · rw [i2, v0] at q6; exact absurd q6 hx6
    · rw [i2, i2, v0, v1, e1, e2]
      rcases hxy with ⟨h1, h2, h3⟩ | ⟨h1, h2, h3⟩ | ⟨h1, -⟩
      · rcases hx' with ⟨-, g2⟩ | ⟨g1, -⟩
        · exact Or.inl ⟨h2, g2, rfl⟩
        · have := g1.2; omega
      · rcases hx' with ⟨g1, -⟩ | ⟨-, g2⟩
        · have := h1.2; omega
        · exact Or.inr (Or.inl ⟨h2, g2, h3, rfl⟩)
      · exact absurd h1 hleaf
  · have hLt : isL (tx p) := Classical.byContradiction (fun h => hleaf h)
    have l1 := hLt.1
    have l2 := hLt.2
    obtain ⟨hx6, hy6⟩ : x = 6 ∧ y = nI (tx p) := by
      rcases hxy with ⟨h1, -⟩ | ⟨h1, -⟩ | ⟨-, h⟩
      · omega
      · have := h1.2; omega
      · exact h
    have s6 : K2.2.1 (K.1.1 + 1) 0 = 6 := by rw [i2, v0]; exact hx6
    obtain ⟨S1, hS1⟩ : ∃ S1 : cp_S, S1 = pshS (ndS (popS S L.length) n1 rf 13 (nI (tx p - 65)) (nI p)) L.length 215 (nI n1) 0 := ⟨_, rfl⟩
    have ps1 : PS S1 ((215, nI n1, 0) :: L) (n1 + 1) rf := by rw [hS1]; exact PS.push (PS.node (PS.pop ps))
    have f1 : RFX rf n1 L.length n1 S S1 := by rw [hS1]; exact (sp0.rfx.trans (nds_rfx (len := L.length) (i0 := n1)) (Nat.le_refl _) (Nat.le_refl _) (Or.inl rfl)).trans (psh_rfx (m := n1) (i0 := n1) (Nat.le_refl _)) (Nat.le_refl _) (Nat.le_refl _) (Or.inl rfl)
    have s1 : ∀ q, q < 49 → S1.2 q = (ndS (popS S L.length) n1 rf 13 (nI (tx p - 65)) (nI p)).2 q := fun q hq => by rw [hS1, psh_2 (by omega)]
    have e1 : S1.2 39 n1 = 13 := by rw [s1 39 (by omega)]; exact nds_at.1
    have e2 : S1.2 40 n1 = nI (tx p - 65) := by rw [s1 40 (by omega)]; exact nds_at.2.1
    have e3 : S1.2 41 n1 = 0 := by rw [s1 41 (by omega)]; exact nds_at.2.2
    have e4 : S1.2 42 (n1 - rf) = nI p := by rw [s1 42 (by omega), nds_42, if_pos rfl]
    have piT : PLI S1 rf (n1 + 1) (p + 1) := (r11.node (x := 13) (v := nI (tx p - 65)) r7).eq (fun z _ => by rw [s1 42 (by omega)]; rfl) (Nat.le_refl _)
    have rj1 : RJ tx n rf K2 S1 ((215, nI n1, 0) :: L) (p + 1) (n1 + 1) := rj.mvz kxA (f1.2.1 27 (by omega)) ps1 at2 (by omega) ⟨by omega, by omega⟩ piT (by omega)
    have rd1 : ∀ r Sx, RD X n r Sx (p + 1) S1 → RD X n r Sx p S := fun r Sx w => rp_let ps (by omega) hp r5 ctx (by omega) r7 (by omega) hLt (by rw [← hS1]; exact w)
    by_cases h40 : p + 1 < n ∧ tx (p + 1) = 40
    · obtain ⟨hp1, h40⟩ := h40
      have q40 : qpk K2 = 40 := by rw [rj1.pk hp1, h40]; rfl
      obtain ⟨K2b, hK2b⟩ : ∃ K2b : cp_K, K2b = kI K2 21 2 (nI (p + 2)) := ⟨_, rfl⟩
      have hq : qtk K2 40 = K2b := by rw [qtk_eq (p := 0) q40, at2, nI_1, hK2b]
      have k2b : ∀ a b, KRX a b K2 K2b := fun a b => by rw [hK2b]; exact KRX_at
      have n2b : K2b.1.1 = K.1.1 + 1 + 1 := by rw [hK2b]; show K2.1.1 = _; omega
      have ib : ∀ z g, z ≠ 21 → K2b.2.1 z g = K2.2.1 z g := fun z g hx => by rw [hK2b, kI_i, cp_up_ne hx]
      have rb : ∀ z g, K2b.2.2.1 z g = K2.2.2.1 z g := fun z g => by rw [hK2b]; rfl
      obtain ⟨T, hT⟩ : ∃ T : cp_S, T = pshS (popS S1 L.length) L.length 216 (nI n1) 0 := ⟨_, rfl⟩
      have psT : PS T ((216, nI n1, 0) :: L) (n1 + 1) rf := by rw [hT]; exact PS.push (PS.pop ps1)
      have stT : STO L.length S1 T := by rw [hT]; exact pop_spo.sto.trans (psh_sto (Nat.le_refl _)) (Nat.le_refl _)
      have fT : RFX rf n1 L.length n1 S T := f1.trans stT.rfx (Nat.le_refl _) (Nat.le_refl _) (Or.inl rfl)
      have rjT : RJ tx n rf K2b T ((216, nI n1, 0) :: L) (p + 2) (n1 + 1) := rj1.mvz (k2b 0 0) (stT.2.1 27 (by omega)) psT (by rw [hK2b, kI_i, va_up_at, va_up_at]) (by omega) ⟨by omega, by omega⟩ (piT.eq (fun z _ => by rw [stT.2.1 42 (by omega)]) (by omega)) (by omega)
      have rdT : ∀ r Sx, RD X n r Sx (p + 2) T → RD X n r Sx p S := fun r Sx w => rd1 _ _ (rd_mnames ps1 (by omega) hp1 r5 (by rw [(rj1.2.2.2.1 _ hp1).2.2, h40]) (by rw [← hT]; exact w))
      have kb : KRX K.1.1 K.1.1 K K2b := kxA.trans (k2b K.1.1 K.1.1) (Or.inl rfl) (Or.inl rfl)
      have vars : ∀ (r : Int32) (K' : cp_K), JC 8 m_Q_readVariables (fun _ => .inl (some (.int r))) K' 3 (LV (K.1.1 + 1) 6 41 1) (fun _ => []) K2b → KC 8 m_Q_readVariables (fun G => [.ref (cp_b G + 21), va_rf (kr G (K.1.1 + 1)), .int 6, .int 41]) (qtk K2 40) (fun _ => some (.int r)) K' := fun r K' w => by
        rw [hq]; exact c_Q_readVariables (D := 0) w
      rcases pvl_0 (X := X) (tx := tx) (n := n) (rf := rf) K2b T L (p + 2) (n1 + 1) (K.1.1 + 1) K2b.1.1 n1 rjT (by omega) (by rw [stT.2.1 41 (by omega)]; exact e3) ⟨r7, by omega⟩ ⟨(k2b 0 0).nd nc2, by rw [ib _ _ (by omega), i2]; exact v3⟩ (Or.inl ⟨by rw [rb]; exact r2' 5, rfl⟩) ⟨fun _ => by rw [rb]; exact r2' 5, fun _ => rfl⟩ (fun h => absurd h (by omega)) with ⟨K', S', p', g1, g2, g3, g4, g5, g6, g7⟩ | ⟨K3, S3, p3, vs, g1, g2, g3, g4, g5, ⟨g6, g7, g8, g9⟩, ⟨g10, -⟩, g11, g12, g13⟩
      · exact Or.inl ⟨K', S', p', ck 0 K' (fun _ => ⟨nq1, nql1, nc1, fun q => absurd s6 q, fun _ => ⟨ok1, fun q => absurd q40 q, fun _ => ⟨0, K', vars 0 K' g1, fun q => absurd rfl q, fun _ => ⟨rfl, rfl⟩⟩⟩⟩), g2, ⟨by omega, g3.2⟩, rdT _ _ g4, kb.trans g5 (Or.inr (by omega)) (Or.inr (by omega)), fT.trans g6 (by omega) (Nat.le_refl _) (Or.inl rfl), by omega⟩
      · rw [Nat.zero_add] at g7 g8 g9
        have g10' := g10 rfl
        have iz : ∀ g, g ≠ 3 → K3.2.1 (K.1.1 + 1) g = K1.2.1 (K.1.1 + 1) g := fun g hg => by rw [g11.2.2.2.1 _ (by omega) (by omega) g (Or.inr hg), ib _ _ (by omega), i2]
        have rz : ∀ g, K3.2.2.1 K.1.1 g = K2.2.2.1 K.1.1 g := fun g => by rw [g11.2.2.2.2.2.1 K.1.1 (by omega) g (Or.inl (by omega)) (Or.inl (by omega)), rb]
        have bz : ∀ q, q = 39 ∨ q = 40 → S3.2 q n1 = S1.2 q n1 := fun q hq => by rw [g12.2.2.1 q (by omega) (by omega) n1 (by omega) (Or.inr (by omega)), stT.2.1 q (by omega)]
        rw [n2b] at g4 g10' g5
        refine Or.inr ⟨K3, S3, p3, [], vs, fun r K' w => ck r K' (fun _ => ⟨nq1, nql1, nc1, fun q => absurd s6 q, fun _ => ⟨ok1, fun q => absurd q40 q, fun _ => ⟨1, K3, vars 1 K3 g1, fun _ => w, fun q => absurd q (by decide)⟩⟩⟩), fun r Sx w => rdT _ _ (g2 r Sx w), g3, JPK.nil, ⟨g11.nd ((k2b 0 0).nd nc2), ?_, g7, g9, g8, g4, ?_, Or.inr (Or.inr ⟨?_, ?_, tx p - 65, by omega, ?_, ?_⟩)⟩, by omega, ⟨g11.nd ((k2b 0 0).nd nq2), ?_, by rw [rz]; exact c4', by rw [rz]; exact c5, by rw [rz]; exact rq6, g11.nd ((k2b 0 0).nd nc2)⟩, kb.trans g11 (Or.inr (by omega)) (Or.inr (by omega)), fT.trans g12 (by omega) (Nat.le_refl _) (Or.inl rfl), by omega⟩
        · rw [iz 2 (by decide), v2, g12.2.2.2.1 _ (by omega), stT.2.1 42 (by omega), e4]; exact rj0.1.1
        · rw [g10', if_neg (by omega)]
        · rw [iz 0 (by decide), v0]; exact hx6
        · rw [bz 39 (Or.inl rfl)]; exact e1
        · rw [iz 1 (by decide), v1, hy6]; congr 1; omega
        · rw [bz 40 (Or.inr rfl)]; exact e2
        · rw [g11.2.2.2.1 K.1.1 (by omega) (by omega) 0 (Or.inl (by omega)), ib _ _ (by omega)]; exact iq
    · have n40 : ¬ qpk K2 = 40 := fun q => by
        by_cases hp1 : p + 1 < n
        · rw [rj1.pk hp1] at q
          have := (r10 (p + 1) hp1).1
          exact h40 ⟨hp1, (nI_ch (a := 40) (by omega) (by omega)).mp q⟩
        · have e : p + 1 = n := by omega
          rw [e] at rj1
          rw [rj1.pk0] at q; exact absurd q (by decide)
      refine Or.inr ⟨K2, S1, p + 1, [(215, nI n1, 0)], [], fun r K' w => ck r K' (fun _ => ⟨nq1, nql1, nc1, fun q => absurd s6 q, fun _ => ⟨ok1, fun _ => w, fun q => absurd q n40⟩⟩), rd1, rj1, ⟨by simp, fun j hj => ?_⟩, ⟨nc2, by rw [pl2, e4], by simp, e3, by rw [i2]; exact v3, fun t h => absurd h (by simp), r2' 4, Or.inr (Or.inr ⟨s6, e1, tx p - 65, by omega, by rw [i2, v1, hy6]; congr 1; omega, e2⟩)⟩, by rw [n2, n1e]; rfl, ⟨nq2, iq, c4', c5, rq6, nc2⟩, kxA, f1, by simp⟩
      rw [List.mem_singleton] at hj
      subst hj
      refine ⟨Or.inr (Or.inr (Or.inl rfl)), fun hp1 => Or.inr (Or.inr ⟨rfl, ?_⟩)⟩
      have hc1 := (r10 (p + 1) hp1).1
      exact nI_cc (a := 40) (by omega) (by omega) (fun h => h40 ⟨hp1, h⟩)
end CPPA2
