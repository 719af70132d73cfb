/-! ===== reading: a declaration, both sides ===== -/
theorem qok_kN {K : cp_K} {c : Nat} (h : qok K) (h86 : 86 ≤ K.1.1) : qok (kN K c) := by
  have i : ∀ q, q ≠ K.1.1 → (kN K c).2.1 q = K.2.1 q := fun q hq => cp_up_ne hq
  have r : ∀ q, q ≠ K.1.1 → (kN K c).2.2.1 q = K.2.2.1 q := fun q hq => cp_up_ne hq
  unfold qok
  rw [i 21 (by omega), i 1 (by omega), r 21 (by omega)]
  exact h
theorem RDF.ofy {S S' : cp_S} {x w y : Int32} {rf len P : Nat} (h16 : S.1 16 = nI rf) (h : RFY rf rf len P (iniS S x w y) S') : RDF S S' rf P := by
  obtain ⟨a1, a2, a3, a4, a5, a6⟩ := h
  refine ⟨fun k hk => ?_, fun q hq _ => (a2 q hq).trans (ini_2 (by omega)), fun q q1 q2 z hz => (a3 q q1 q2 z hz).trans (by rw [ini_2 (by omega)]), ⟨?_, ?_⟩, fun q q1 q2 z hz => (a5 q q1 q2 z hz).trans (by rw [ini_2 (by omega)])⟩
  · simp only [List.mem_cons, List.not_mem_nil, or_false, not_or] at hk
    rw [a1 k hk.2.1 hk.2.2.2.1 hk.2.2.2.2.1 hk.2.2.2.2.2]
    exact ini_1 (by simp only [List.mem_cons, List.not_mem_nil, or_false, not_or]; exact ⟨hk.1, hk.2.2.1, hk.2.2.2.1, hk.2.2.2.2.1⟩)
  · rw [a1 1 (by decide) (by decide) (by decide) (by decide)]; exact ini_1'
  · rw [a1 20 (by decide) (by decide) (by decide) (by decide)]; exact (ini_ps h16).2.2.2
/-- the class behind the parts -/
theorem rdecl_kc {K T2 K5 K' : cp_K} {r p ql : Nat} (kp : KC 68 m_Q_readParts (fun G => [.ref (cp_b G + 21), va_rf (kr G K.1.1)]) (nn K 17 0 0) (fun _ => some (.int 1)) T2) (hq0 : nd T2 K.1.1 9) (hl : LSP T2 K.1.1 ql) (h86 : 86 ≤ T2.1.1) (hok : qok T2) (hat : T2.2.1 21 2 = nI p) (e5 : K5 = nadd (nn T2 16 0 (nI p)) K.1.1 T2.1.1) (hz5 : K5.2.2.1 T2.1.1 5 = 0)
    (w1 : ¬ qpk K5 = 42 → ∃ r11, KC 43 m_Q_withPiece (fun G => [.ref (cp_b G + 21), va_rf (kr G T2.1.1), .int 2, .int 1]) K5 (fun G => some (va_rf (kr G r11))) K' ∧ (¬ r11 = 0 → r = if K'.2.1 21 2 = K'.2.1 21 1 then K.1.1 else 0) ∧ (r11 = 0 → r = 0))
    (w2 : qpk K5 = 42 → r = (if K'.2.1 21 2 = K'.2.1 21 1 then K.1.1 else 0) ∧ K' = nadd (qlf K5 3 0) T2.1.1 K5.1.1) : KC 80 m_Q_readDeclaration (fun G => [.ref (cp_b G + 21)]) K (fun G => some (va_rf (kr G r))) K' := by
  have e21 : (kN T2 9).2.1 21 2 = nI p := by
    show va_up T2.2.1 T2.1.1 (fun _ => 0) 21 2 = nI p
    rw [cp_up_ne (by omega)]; exact hat
  have ak := addK (c := T2.1.1) (KRX_nn (x := 16) (y := 0) (z := nI p) h86 (Nat.le_refl _) (Nat.le_refl _)) hq0 hl
  refine c_Q_readDeclaration (D := 72) ?_
  unfold wp_Q_readDeclaration_0
  refine ⟨1, T2, kp.mono (by omega), fun _ => ?_, fun h => absurd h (by decide)⟩
  rw [e21, ← e5]
  refine ⟨hq0, ak.1.2, qok_kN hok h86, fun q => ?_, fun q => ?_⟩
  · obtain ⟨r11, u1, u2, u3⟩ := w1 q
    exact ⟨r11, K', u1.mono (by omega), fun h => ⟨by rw [u2 h], rfl⟩, fun h => ⟨by rw [u3 h]; simp, rfl⟩⟩
  · obtain ⟨u1, u2⟩ := w2 q
    have r5 : (qlf K5 3 0).2.2.1 T2.1.1 5 = 0 := by
      have hne : T2.1.1 ≠ K5.1.1 := by rw [e5, na_n]; show T2.1.1 ≠ (nn T2 16 0 (nI p)).1.1; rw [nn_n]; omega
      rw [ql_r hne]; exact hz5
    refine ⟨fun h => absurd r5 h, ?_, u2⟩
    rw [← u2, u1]
section CPDX
variable {tx : Nat → Nat} {n rf : Nat} {K : cp_K} {S : cp_S} {P : Nat}
abbrev XD : Int32 × Int32 × Int32 := (203, 0, 0)
def DCF (n rf : Nat) (K : cp_K) (S : cp_S) (P : Nat) : Prop := ∃ (K' : cp_K) (S' : cp_S) (p' : Nat), KC 80 m_Q_readDeclaration (fun G => [.ref (cp_b G + 21)]) K (fun G => some (va_rf (kr G 0))) K' ∧ K'.2.1 21 2 = nI p' ∧ p' ≤ n ∧ MC 5 m_M_read [.int 203, .int 0, .int 0] S (some (.int (nI p'))) S' ∧ KRX K.1.1 K.1.1 K K' ∧ RDF S S' rf P ∧ K'.1.1 ≤ K.1.1 + 90
def DCO (n rf : Nat) (K : cp_K) (S : cp_S) (P : Nat) : Prop := ∃ (K' : cp_K) (S' : cp_S) (n1' m z j : Nat) (res : Int32), KC 80 m_Q_readDeclaration (fun G => [.ref (cp_b G + 21)]) K (fun G => some (va_rf (kr G K.1.1))) K' ∧ MC 5 m_M_read [.int 203, .int 0, .int 0] S (some (.int (-1))) S' ∧ (∀ pl : Nat → Nat → Prop, (∀ q' i', rf ≤ i' → i' < n1' → 86 ≤ q' → K'.2.1 q' 2 = S'.2 42 (i' - rf) → pl q' i') → RPT K' S'.2 pl 8 z m (K'.2.2.1 K.1.1 4) P rf j ∧ RRS K' S'.2 pl 8 z j n1' res) ∧ (nd K' K.1.1 9 ∧ K'.2.2.1 K.1.1 5 = z ∧ m ≤ 6 ∧ S'.1 34 = res ∧ S'.1 33 = nI (P + m)) ∧ j ≤ n1' ∧ KRX K.1.1 K.1.1 K K' ∧ RDF S S' rf P ∧ S'.1 16 = nI n1' ∧ TV S'.2 0 n rf n1' ∧ PLI S' rf n1' n ∧ K'.1.1 ≤ K.1.1 + 90
/-- the result of a declaration -/
theorem rd_res {T2 : cp_K} {S2 : cp_S} {p n1 m qe : Nat} (h86 : 86 ≤ K.1.1) (h16 : S.1 16 = nI rf) (kp : KC 68 m_Q_readParts (fun G => [.ref (cp_b G + 21), va_rf (kr G K.1.1)]) (nn K 17 0 0) (fun _ => some (.int 1)) T2) (rd0 : ∀ r Sx, RD XD n r Sx p S2 → MC 5 m_M_read [.int 203, .int 0, .int 0] S r Sx) (rj : RJ tx n rf T2 S2 [(206, 0, 0)] p n1) (hq0 : nd T2 K.1.1 9) (hpd : RPD T2 S2.2 rf 0 qe m P rf n1 (K.1.1 + 1) T2.1.1) (hm : (m = 0 ∧ T2.2.2.1 K.1.1 4 = 0 ∧ T2.2.2.1 K.1.1 5 = 0) ∨ (0 < m ∧ T2.2.2.1 K.1.1 4 = K.1.1 + 1 ∧ T2.2.2.1 K.1.1 5 = qe ∧ nd T2 qe 9 ∧ K.1.1 + 1 ≤ qe)) (hm6 : m ≤ 6) (hPm : P + 6 ≤ 178) (h33 : S2.1 33 = nI (P + m)) (kx : KRX K.1.1 K.1.1 K T2) (fy : RFY rf rf 0 P (iniS S 203 0 0) S2) (tv : TV S2.2 0 p rf n1) (hsz : T2.1.1 ≤ K.1.1 + 7 + p) : DCF n rf K S P ∨ DCO n rf K S P := by
  obtain ⟨⟨r1, r2, r3, r4⟩, ps, ⟨r5, r6, r7, r8, r9⟩, r10, r11⟩ := id rj
  have q0lt := hq0.2.1
  have hLS : ∃ ql, LSP T2 K.1.1 ql ∧ (m = 0 → ql = T2.1.1) ∧ (0 < m → ql = qe) := by
    rcases hm with ⟨m0, -, h5⟩ | ⟨m0, -, h5, h6, h7⟩
    · exact ⟨T2.1.1, Or.inl ⟨h5, rfl⟩, fun _ => rfl, fun h => absurd h (by omega)⟩
    · exact ⟨qe, Or.inr ⟨h5, by omega, h6⟩, fun h => absurd h (by omega), fun _ => rfl⟩
  obtain ⟨ql, hls, hql0, hqlm⟩ := hLS
  have k4 : KRX T2.1.1 T2.1.1 T2 (nn T2 16 0 (nI p)) := KRX_nn r4 (Nat.le_refl _) (Nat.le_refl _)
  obtain ⟨w0, w1, w2, w3⟩ := nn_new (K := T2) (x := 16) (y := 0) (z := nI p)
  have n4 : (nn T2 16 0 (nI p)).1.1 = T2.1.1 + 1 := nn_n
  have nz4 : nd (nn T2 16 0 (nI p)) T2.1.1 9 := nn_nd r4
  have wr : ∀ g, (nn T2 16 0 (nI p)).2.2.1 T2.1.1 g = 0 := fun g => nn_rn
  obtain ⟨-, k25, ⟨qx, hqx, k45⟩, n5, c3, c5, c4, c46, c21⟩ := addK (c := T2.1.1) k4 hq0 hls
  have i4 : (nn T2 16 0 (nI p)).2.1 21 = T2.2.1 21 := nn_i (by omega)
  obtain ⟨K4, hK4⟩ : ∃ K4 : cp_K, K4 = nn T2 16 0 (nI p) := ⟨_, rfl⟩
  rw [← hK4] at k4 w0 w1 w2 w3 n4 nz4 wr k25 k45 n5 c3 c5 c4 c46 c21 i4 hqx
  obtain ⟨K5, hK5⟩ : ∃ K5 : cp_K, K5 = nadd K4 K.1.1 T2.1.1 := ⟨_, rfl⟩
  rw [← hK5] at k25 k45 n5 c3 c5 c4 c46 c21
  have at5 : K5.2.1 21 2 = nI p := by rw [c21, i4]; exact r1
  have e15 : K5.2.1 21 1 = nI n := by rw [c21, i4]; exact r2
  have qne : T2.1.1 ≠ K.1.1 := by omega
  have iz5 : ∀ g, K5.2.1 T2.1.1 g = K4.2.1 T2.1.1 g := fun g => k45.2.2.2.1 T2.1.1 (by omega) (by omega) g (Or.inl qne)
  have rz5 : ∀ g, K5.2.2.1 T2.1.1 g = 0 := fun g => by
    rw [k45.2.2.2.2.2.1 T2.1.1 (by omega) g (Or.inl qne) (Or.inl (by omega))]; exact wr g
  have nz5 : nd K5 T2.1.1 9 := k45.nd nz4
  have kx5 : KRX K.1.1 K.1.1 K K5 := kx.trans k25 (Or.inl rfl) (by
    rcases hls with ⟨-, h⟩ | ⟨-, -, h⟩
    · exact Or.inr (by omega)
    · rcases hm with ⟨m0, -, h5⟩ | ⟨m0, -, h5, h6, h7⟩
      · exact Or.inr (by rw [hql0 m0]; omega)
      · exact Or.inr (by rw [hqlm m0]; omega))
  have rj5 : RJ tx n rf K5 S2 [(206, 0, 0)] p n1 := rj.mvz k25 rfl ps at5 r6 ⟨r7, r8⟩ r11 (by omega)
  have kc := fun (r : Nat) (K' : cp_K) => rdecl_kc (K := K) (K' := K') (K5 := K5) (r := r) kp hq0 hls r4 r3 r1 (by rw [hK5, hK4]) (rz5 5)
  have first5 : (m = 0 → K5.2.2.1 K.1.1 4 = T2.1.1) ∧ (0 < m → K5.2.2.1 K.1.1 4 = K.1.1 + 1 ∧ K5.2.2.1 qe 6 = T2.1.1) := by
    rcases hm with ⟨m0, h4, h5⟩ | ⟨m0, h4, h5, h6, h7⟩
    · exact ⟨fun _ => c4 h5, fun h => absurd h (by omega)⟩
    · refine ⟨fun h => absurd h (by omega), fun _ => ?_⟩
      have := c46 (by rw [h5]; omega)
      rw [hqlm m0, h4] at this
      exact this
  -- the parts in the end
  have fin : ∀ (K' : cp_K) (S' : cp_S) (n1' : Nat) (pl : Nat → Nat → Prop), KRX T2.1.1 K5.1.1 K5 K' → n1 ≤ n1' → (∀ q, 39 ≤ q → q ≤ 41 → ∀ x, x < n1 → S'.2 q x = S2.2 q x) → (∀ x, x < n1 - rf → S'.2 42 x = S2.2 42 x) → (∀ q, 44 ≤ q → q ≤ 48 → S'.2 q = S2.2 q) → (∀ q' i', rf ≤ i' → i' < n1' → 86 ≤ q' → K'.2.1 q' 2 = S'.2 42 (i' - rf) → pl q' i') → RPT K' S'.2 pl 8 T2.1.1 m (K'.2.2.1 K.1.1 4) P rf n1 := fun K' S' n1' pl k5 hn hb h42 h44 hpl => by
    have e4 : K'.2.2.1 K.1.1 4 = K5.2.2.1 K.1.1 4 := k5.2.2.2.2.2.1 K.1.1 (by omega) 4 (Or.inl (by omega)) (Or.inr (by decide))
    by_cases m0 : m = 0
    · rw [e4, first5.1 m0]
      subst m0
      obtain ⟨hij, -⟩ : rf = n1 ∧ K.1.1 + 1 = T2.1.1 := hpd
      exact ⟨rfl, hij⟩
    · obtain ⟨f1, f2⟩ := first5.2 (by omega)
      rw [e4, f1]
      obtain ⟨l1, l2, l3⟩ := RPD.le m _ _ _ _ _ hpd
      have l4 := l3 (by omega)
      refine RPD.rpt (qe := qe) (jm := n1') hpl m P rf n1 (K.1.1 + 1) (Nat.le_refl _) hn ?_
      have k25' : ∀ x, K.1.1 + 1 ≤ x → x < T2.1.1 → (∀ f, K'.2.1 x f = T2.2.1 x f) ∧ K'.1.2 x = T2.1.2 x ∧ K'.2.2.1 x 4 = T2.2.2.1 x 4 ∧ K'.2.2.1 x 5 = T2.2.2.1 x 5 ∧ (x ≠ qe → K'.2.2.1 x 6 = T2.2.2.1 x 6) := fun x x1 x2 => by
        have hq := hqlm (by omega)
        refine ⟨fun f => ?_, ?_, ?_, ?_, fun hx => ?_⟩
        · rw [k5.2.2.2.1 x (by omega) (by omega) f (Or.inl (by omega)), k25.2.2.2.1 x (by omega) (by omega) f (Or.inl (by omega))]
        · rw [k5.2.1 x (by omega), k25.2.1 x (by omega)]
        · rw [k5.2.2.2.2.2.1 x (by omega) 4 (Or.inl (by omega)) (Or.inr (by decide)), k25.2.2.2.2.2.1 x (by omega) 4 (Or.inl (by omega)) (Or.inr (by decide))]
        · rw [k5.2.2.2.2.2.1 x (by omega) 5 (Or.inl (by omega)) (Or.inr (by decide)), k25.2.2.2.2.2.1 x (by omega) 5 (Or.inl (by omega)) (Or.inr (by decide))]
        · rw [k5.2.2.2.2.2.1 x (by omega) 6 (Or.inl (by omega)) (Or.inl (by omega)), k25.2.2.2.2.2.1 x (by omega) 6 (Or.inl (by omega)) (Or.inl (by omega))]
      have := k5.1
      have := k25.1
      refine RPD.loc (e2 := T2.1.1) (by omega) ?_ m P rf n1 (K.1.1 + 1) T2.1.1 hpd k25' (fun x x1 x2 => ⟨hb 39 (by omega) (by omega) x x2, hb 40 (by omega) (by omega) x x2, hb 41 (by omega) (by omega) x x2, h42 _ (by omega)⟩) (fun g g1 g2 x _ _ => by rw [h44 g g1 g2])
      rw [k5.2.2.2.2.2.1 qe (by omega) 6 (Or.inl (by omega)) (Or.inl (by omega))]; exact f2
  by_cases hpn : p = n
  · subst hpn
    have q42 : ¬ qpk K5 = 42 := by rw [rj5.pk0]; decide
    exact Or.inl ⟨K5, S2, p, kc 0 K5 (fun _ => ⟨0, (withP_end (d := 1) rj5).mono (by omega), fun h => absurd rfl h, fun _ => rfl⟩) (fun h => absurd h q42), at5, Nat.le_refl _, rd0 _ _ (rd_end_no ps (by simp) r5 List.mem_cons_self (nmy (w := 206) rfl (by decide) (by decide) (by decide) (by decide))), kx5, RDF.ofy h16 fy, by omega⟩
  have hp : p < n := by omega
  have hc200 : tx p < 200 := by have := (r10 p hp).1; omega
  have pk5 := rj5.pk hp
  have ctx := (r10 p hp).2.2
  have ns : ∀ c, ¬ SKP c (206, 0, 0) := fun c => nsk (by show ¬ (206 : Int32) = 201; decide) (by show ¬ (206 : Int32) = 211; decide) (by show ¬ (206 : Int32) = 215; decide)
  have pp := PS.pop ps
  have sp : SPO S2 (popS S2 0) := pop_spo
  have up34 : ∀ (y : Int32) (T : cp_S), T = (va_up (popS S2 0).1 34 y, (popS S2 0).2) → PS T [] n1 rf ∧ RFY rf n1 0 P S2 T ∧ T.2 = S2.2 ∧ T.1 34 = y ∧ ∀ k, k ≠ 29 → k ≠ 34 → T.1 k = S2.1 k := fun y T hT => by
    have t2 : T.2 = S2.2 := by rw [hT]; rfl
    have tk : ∀ k, k ≠ 34 → T.1 k = (popS S2 0).1 k := fun k hk => by rw [hT]; exact cp_up_ne hk
    have tk2 : ∀ k, k ≠ 29 → k ≠ 34 → T.1 k = S2.1 k := fun k h1 h2 => by rw [tk k h2]; exact sp.1 k h1
    refine ⟨⟨by rw [tk 29 (by decide)]; exact pp.1, trivial, by rw [tk 16 (by decide)]; exact pp.2.2.1, by rw [tk 20 (by decide)]; exact pp.2.2.2⟩, ⟨fun k _ k2 _ k4 => tk2 k k2 k4, fun q _ => by rw [t2], fun q _ _ x _ => by rw [t2], fun x _ => by rw [t2], fun q _ _ x _ => by rw [t2], fun q _ _ x _ => by rw [t2]⟩, t2, ?_, tk2⟩
    rw [hT]; show va_up (popS S2 0).1 34 y 34 = y; exact va_up_at
  by_cases h42 : tx p = 42
  · -- the star
    have q42 : qpk K5 = 42 := by rw [pk5, h42]; rfl
    obtain ⟨T, hT⟩ : ∃ T : cp_S, T = (va_up (popS S2 0).1 34 (-2), (popS S2 0).2) := ⟨_, rfl⟩
    obtain ⟨ps3, fT, t2, t34, tk⟩ := up34 _ T hT
    have rd1 : ∀ r Sx, RD XD n r Sx (p + 1) T → MC 5 m_M_read [.int 203, .int 0, .int 0] S r Sx := fun r Sx w => rd0 _ _ (rd_step hp r5 ctx (tk_decl (r := 1) ps (by simp) (ns _) (by show (200 : Int32) ≤ 206; decide) (by show ¬ (209 : Int32) ≤ 206; decide) (Or.inr rfl) (by rw [hT]; exact td_206s (by rw [h42]; rfl))) (fun _ => w) (fun q => absurd q (by decide)))
    have h865 : 86 ≤ K5.1.1 := by omega
    obtain ⟨v0, v1, v2, v3⟩ := ql_new (K := K5) (x := 3) (y := 0) h865
    have k56 : KRX K5.1.1 K5.1.1 K5 (qlf K5 3 0) := KRX_leaf h865 (Nat.le_refl _) (Nat.le_refl _)
    obtain ⟨-, k57, ⟨qy, hqy, k67⟩, n7, d3, d5, d4, -, d21⟩ := addK (c := K5.1.1) k56 nz5 (Or.inl ⟨rz5 5, rfl⟩)
    have n6 : (qlf K5 3 0).1.1 = K5.1.1 + 1 := ql_n
    have at6 : (qlf K5 3 0).2.1 21 2 = nI (p + 1) := by rw [ql_21 h865, if_pos rfl, at5, nI_1]
    have e16 : (qlf K5 3 0).2.1 21 1 = nI n := by rw [ql_21 h865, if_neg (by decide)]; exact e15
    have nl6 : nd (qlf K5 3 0) K5.1.1 9 := ⟨h865, by omega, ql_ts⟩
    have lr6 : ∀ g, (qlf K5 3 0).2.2.1 K5.1.1 g = 0 := fun g => ql_rn
    obtain ⟨K7, hK7⟩ : ∃ K7 : cp_K, K7 = nadd (qlf K5 3 0) T2.1.1 K5.1.1 := ⟨_, rfl⟩
    rw [← hK7] at k57 k67 n7 d3 d5 d4 d21
    have at7 : K7.2.1 21 2 = nI (p + 1) := by rw [d21]; exact at6
    have e17 : K7.2.1 21 1 = nI n := by rw [d21]; exact e16
    have kc2 : KC 80 m_Q_readDeclaration (fun G => [.ref (cp_b G + 21)]) K (fun G => some (va_rf (kr G (if p + 1 = n then K.1.1 else 0)))) K7 := kc _ K7 (fun h => absurd q42 h) (fun _ => ⟨by
      rw [at7, e17]
      by_cases e : p + 1 = n
      · rw [if_pos e, if_pos (by rw [e])]
      · rw [if_neg e, if_neg (fun h => e ((nI_eq (by omega) (by omega)).mp h))], hK7⟩)
    have kx7 : KRX K.1.1 K.1.1 K K7 := kx5.trans k57 (Or.inr (by omega)) (Or.inr (by omega))
    have fy7 := fy.trans fT (by omega) (Nat.le_refl _) (Nat.le_refl _)
    by_cases hpe : p + 1 = n
    · rw [if_pos hpe] at kc2
      have z4 : K7.2.2.1 T2.1.1 4 = K5.1.1 := d4 (rz5 5)
      refine Or.inr ⟨K7, T, n1, m, T2.1.1, n1, -2, kc2, rd1 _ _ (by rw [hpe]; exact rd_end_ok ps3 (by simp) r5 (fun i hi => by cases hi)), fun pl hpl => ⟨fin K7 T n1 pl k57 (Nat.le_refl _) (fun q _ _ x _ => by rw [t2]) (fun x _ => by rw [t2]) (fun q _ _ => by rw [t2]) hpl, k57.nd nz5, ?_, ?_, ?_, ?_, Or.inl ⟨?_, rfl, rfl⟩⟩, ⟨k57.nd (k25.nd hq0), ?_, hm6, t34, ?_⟩, Nat.le_refl _, kx7, RDF.ofy h16 fy7, ?_, ?_, ?_, by omega⟩
      · rw [k57.2.2.2.1 T2.1.1 (by omega) (by omega) 0 (Or.inr (by decide)), iz5]; exact w0
      · rw [k57.2.2.2.2.2.1 T2.1.1 (by omega) 6 (Or.inr ⟨by decide, by decide⟩) (Or.inl (by omega))]; exact rz5 6
      · rw [z4]; exact k67.nd nl6
      · rw [z4, k67.2.2.2.2.2.1 K5.1.1 (by omega) 6 (Or.inl (by omega)) (Or.inl (by omega))]; exact lr6 6
      · rw [z4, k67.2.2.2.1 K5.1.1 (by omega) (by omega) 0 (Or.inl (by omega))]; exact v0
      · rw [k57.2.2.2.2.2.1 K.1.1 (by omega) 5 (Or.inl (by omega)) (Or.inr (by decide))]; exact c5
      · rw [tk 33 (by decide) (by decide)]; exact h33
      · exact ps3.2.2.1
      · exact (tv.loc (fun x _ _ => by rw [t2]; exact ⟨rfl, rfl⟩)).wk (Nat.le_refl _) r6
      · exact r11.eq (fun x _ => by rw [t2]) r6
    · rw [if_neg hpe] at kc2
      have hp1 : p + 1 < n := by omega
      have hc1 := (r10 (p + 1) hp1).2.2
      refine Or.inl ⟨K7, T, p + 1, kc2, at7, by omega, rd1 _ _ (rd_step hp1 r5 (show T.2 27 (p + 1) = nI (tx (p + 1)) by rw [t2]; exact hc1) (tk_e (l := []) ps3) (fun q => absurd rfl q) (fun _ => ⟨rfl, rfl⟩)), kx7, RDF.ofy h16 fy7, by omega⟩
  · -- a term
    have q42 : ¬ qpk K5 = 42 := by rw [pk5]; exact nI_cc (a := 42) hc200 (by omega) h42
    obtain ⟨T, hT⟩ : ∃ T : cp_S, T = (va_up (popS S2 0).1 34 (nI n1), (popS S2 0).2) := ⟨_, rfl⟩
    obtain ⟨ps3, fT, t2, t34, tk⟩ := up34 _ T hT
    have rd1 : ∀ r Sx, BTK XD n r Sx T p 2 → MC 5 m_M_read [.int 203, .int 0, .int 0] S r Sx := fun r Sx w => by
      obtain ⟨r', T', u1, u2, u3, u4⟩ := w
      refine rd0 _ _ (rd_step hp r5 ctx (tk_decl (r := r') ps (by simp) (ns _) (by show (200 : Int32) ≤ 206; decide) (by show ¬ (209 : Int32) ≤ 206; decide) u2 (td_206t (nI_cc (a := 42) hc200 (by omega) h42) ?_ u2)) u4 u3)
      rw [show (popS S2 ([] : List cp_I).length).1 16 = nI n1 from pp.2.2.1]
      rw [show T.2 27 p = nI (tx p) by rw [t2]; exact ctx, hT] at u1
      exact u1
    have fyT := fy.trans fT (by omega) (Nat.le_refl _) (Nat.le_refl _)
    have rjT : RJ tx n rf K5 T [] p n1 := rj5.mvz (KRX.refl (q0 := 0) (ql := 0)) (by rw [t2]) ps3 at5 r6 ⟨r7, r8⟩ (r11.eq (fun x _ => by rw [t2]) (Nat.le_refl _)) (by omega)
    rcases withP (X := XD) (ql := K5.1.1) (pj_all 7) rjT hp (by simp) nz5 (Or.inl ⟨rz5 5, rfl⟩) with ⟨K', S', p', a1, a2, a3, a4, a5, a6, a7⟩ | ⟨K', S', p', n1', jk, a1, a2, a3, ⟨a4, a4'⟩, a5, a6, ⟨a7, a8, a9, -⟩, a10, a11, a12, a13, a14⟩
    · exact Or.inl ⟨K', S', p', kc 0 K' (fun _ => ⟨0, a1, fun h => absurd rfl h, fun _ => rfl⟩) (fun h => absurd h q42), a2, a3.2, rd1 _ _ a4, kx5.trans a5 (Or.inr (by omega)) (Or.inr (by omega)), RDF.ofy h16 (fyT.trans a6.y (by omega) (Nat.le_refl _) (Nat.le_refl _)), by omega⟩
    · obtain ⟨⟨b1, b2, b3, b4⟩, ps1, ⟨b5, b6, b7, b8, b9⟩, b10, b11⟩ := id a3
      rw [List.append_nil] at a3 ps1
      have lt := RTR.lt _ _ _ _ _ a5
      have kc2 : KC 80 m_Q_readDeclaration (fun G => [.ref (cp_b G + 21)]) K (fun G => some (va_rf (kr G (if p' = n then K.1.1 else 0)))) K' := kc _ K' (fun _ => ⟨T2.1.1, a1, fun _ => by
        rw [b1, b2]
        by_cases e : p' = n
        · rw [if_pos e, if_pos (by rw [e])]
        · rw [if_neg e, if_neg (fun h => e ((nI_eq (by omega) (by omega)).mp h))], fun h => absurd h (by omega)⟩) (fun h => absurd h q42)
      have kx' := kx5.trans a10 (Or.inr (by omega)) (Or.inr (by omega))
      have fy' := fyT.trans (a11.y (P := P)) (by omega) (Nat.le_refl _) (Nat.le_refl _)
      by_cases hpe : p' = n
      · rw [if_pos hpe] at kc2
        have z4 : K'.2.2.1 T2.1.1 4 = K5.1.1 := a9 (rz5 5)
        have hb : ∀ q, 39 ≤ q → q ≤ 41 → ∀ x, x < n1 → S'.2 q x = S2.2 q x := fun q q1 q2 x hx => by rw [a11.2.2.1 q q1 q2 x hx (Or.inl (by omega)), t2]
        refine Or.inr ⟨K', S', n1', m, T2.1.1, n1, nI n1, kc2, rd1 _ _ (a2 _ _ (by rw [hpe]; exact rd_end_ok ps1 (by omega) r5 (fun i hi => (a4' i hi).1))), fun pl hpl => ⟨fin K' S' n1' pl a10 (by omega) hb (fun x hx => by rw [a11.2.2.2.1 x hx, t2]) (fun q q1 q2 => by rw [a11.2.1 q (by omega), t2]) hpl, a10.nd nz5, ?_, ?_, ?_, ?_, Or.inr ⟨rfl, ?_⟩⟩, ⟨a10.nd (k25.nd hq0), ?_, hm6, ?_, ?_⟩, by omega, kx', RDF.ofy h16 fy', ?_, ?_, ?_, by omega⟩
        · rw [a10.2.2.2.1 T2.1.1 (by omega) (by omega) 0 (Or.inr (by decide)), iz5]; exact w0
        · rw [a10.2.2.2.2.2.1 T2.1.1 (by omega) 6 (Or.inr ⟨by decide, by decide⟩) (Or.inl (by omega))]; exact rz5 6
        · rw [z4]; exact a5.nd
        · rw [z4]; exact a6
        · rw [z4]; exact RTR.tr 8 _ _ _ _ a5 (fun q' i' i1 i2 i3 i4 => hpl q' i' (by omega) i2 i3 i4)
        · rw [a10.2.2.2.2.2.1 K.1.1 (by omega) 5 (Or.inl (by omega)) (Or.inr (by decide))]; exact c5
        · rw [a11.1 34 (by decide) (by decide)]; exact t34
        · rw [a11.1 33 (by decide) (by decide), tk 33 (by decide) (by decide)]; exact h33
        · exact ps1.2.2.1
        · rw [← hpe]
          exact (tv.loc (fun x x1 x2 => ⟨hb 39 (by omega) (by omega) x x2, hb 41 (by omega) (by omega) x x2⟩)).join a12.v (Nat.le_refl _)
        · rw [← hpe]; exact b11
      · rw [if_neg hpe] at kc2
        have hp1 : p' < n := by omega
        obtain ⟨U, u1, u2⟩ := tk_jk0 (c := nI (tx p')) (p := nI p') jk S' ps1 (by omega) (fun j hj => (a4' j hj).2 hp1)
        exact Or.inl ⟨K', U, p', kc2, b1, by omega, rd1 _ _ (a2 _ _ (rd_step hp1 b5 (b10 p' hp1).2.2 u2 (fun q => absurd rfl q) (fun _ => ⟨rfl, rfl⟩))), kx', RDF.ofy h16 (fy'.trans u1.rfy (Nat.le_refl _) (Nat.le_refl _) (Nat.le_refl _)), by omega⟩
/-- a declaration -/
theorem read_decl_m (h : RIN tx n rf K S) (hP : S.1 23 = nI P) (hP2 : P + 6 ≤ 178) : DCF n rf K S P ∨ DCO n rf K S P := by
  have rj : RJ tx n rf K (iniS S 203 0 0) [(203, 0, 0)] 0 rf := h.rj
  obtain ⟨⟨h1, h2, h3, h4⟩, ⟨h5, h6, h7, h8⟩, h9⟩ := id h
  have ps := rj.2.1
  have k0 : KRX K.1.1 K.1.1 K (nn K 17 0 0) := KRX_nn h4 (Nat.le_refl _) (Nat.le_refl _)
  have n0 : (nn K 17 0 0).1.1 = K.1.1 + 1 := nn_n
  have nd0 : nd (nn K 17 0 0) K.1.1 9 := nn_nd h4
  have wr : ∀ g, (nn K 17 0 0).2.2.1 K.1.1 g = 0 := fun g => nn_rn
  have i3 : (nn K 17 0 0).2.1 K.1.1 3 = 0 := nn_new.2.2.2
  have i21 : (nn K 17 0 0).2.1 21 = K.2.1 21 := nn_i (by omega)
  obtain ⟨K0, hK0⟩ : ∃ K0 : cp_K, K0 = nn K 17 0 0 := ⟨_, rfl⟩
  rw [← hK0] at k0 n0 nd0 wr i3 i21
  have rj0 : RJ tx n rf K0 (iniS S 203 0 0) [(203, 0, 0)] 0 rf := rj.mvz k0 rfl ps (by rw [i21]; exact h1) (Nat.zero_le _) ⟨Nat.le_refl _, by omega⟩ (rj.2.2.2.2.eq (fun _ _ => rfl) (Nat.le_refl _)) (by omega)
  have rd00 : ∀ r Sx, RD XD n r Sx 0 (iniS S 203 0 0) → MC 5 m_M_read [.int 203, .int 0, .int 0] S r Sx := fun r Sx w => ini_read h5 h6 w
  have nul : ∀ K', KC 68 m_Q_readParts (fun G => [.ref (cp_b G + 21), va_rf (kr G K.1.1)]) K0 (fun _ => some (.int 0)) K' → KC 80 m_Q_readDeclaration (fun G => [.ref (cp_b G + 21)]) K (fun G => some (va_rf (kr G 0))) K' := fun K' w => c_Q_readDeclaration (D := 72) ⟨0, K', by rw [hK0] at w; exact w.mono (by omega), fun q => absurd rfl q, fun _ => ⟨rfl, rfl⟩⟩
  have qok0 := rj0.1.2.2.1
  have kp : ∀ (r : Int32) (K' : cp_K), (¬ qpk K0 = 62 → JC 68 m_Q_readParts (fun _ => .inl (some (.int r))) K' 13 (LPD K.1.1 1) (fun _ => []) K0) → (qpk K0 = 62 → r = 1 ∧ K' = qtk K0 62) → KC 68 m_Q_readParts (fun G => [.ref (cp_b G + 21), va_rf (kr G K.1.1)]) K0 (fun _ => some (.int r)) K' := fun r K' w1 w2 => by
    refine c_Q_readParts (D := 60) ⟨qok0, fun q => ?_, fun q => ?_⟩
    · by_cases e : qpk K0 = 62
      · exact absurd q (ife1 e)
      · rw [qtk_ne e]; exact w1 e
    · by_cases e : qpk K0 = 62
      · obtain ⟨e1, e2⟩ := w2 e
        rw [e1, e2]; exact ⟨rfl, rfl⟩
      · exact absurd (ife0 e) q
  have h33 : (iniS S 203 0 0).1 33 = nI P := by rw [ini_33]; exact hP
  have ns : ∀ c, ¬ SKP c (203, 0, 0) := fun c => nsk (by show ¬ (203 : Int32) = 201; decide) (by show ¬ (203 : Int32) = 211; decide) (by show ¬ (203 : Int32) = 215; decide)
  by_cases hn0 : n = 0
  · subst hn0
    have e62 : ¬ qpk K0 = 62 := by rw [rj0.pk0]; decide
    refine Or.inl ⟨K0, iniS S 203 0 0, 0, nul K0 (kp 0 K0 (fun _ => b_Q_readParts_13 (D := 60) ⟨fun q => absurd q (by decide), fun _ => ⟨0, K0, (pj_end rj0).mono (by omega), fun q => absurd rfl q, fun _ => ⟨rfl, rfl⟩⟩⟩) (fun q => absurd q e62)), rj0.1.1, Nat.le_refl _, rd00 _ _ (rd_end_no ps (by simp) h7 List.mem_cons_self (nmy (w := 203) rfl (by decide) (by decide) (by decide) (by decide))), k0, RDF.ofy h6 (RFY.refl (len := 0)), by omega⟩
  have hp : 0 < n := by omega
  have hc : tx 0 < 200 := by have := (h9 0 hp).1; omega
  have ctx := (rj.2.2.2.1 0 hp).2.2
  by_cases h62 : tx 0 = 62
  · have q62 : qpk K0 = 62 := by rw [rj0.pk hp, h62]; rfl
    have pT := PS.push (w := 206) (x := 0) (y := 0) (PS.pop ps)
    have st : STO 0 (iniS S 203 0 0) (pshS (popS (iniS S 203 0 0) 0) 0 206 0 0) := (pop_spo.sto (len := 0)).trans (psh_sto (Nat.le_refl _)) (Nat.le_refl _)
    have hm := MC_push (w := 206) (x := 0) (y := 0) (PS.pop ps) (by simp)
    have k1 : ∀ x y, KRX x y K0 (kI K0 21 2 (nI 1)) := fun x y => KRX_at
    have hq : qtk K0 62 = kI K0 21 2 (nI 1) := by rw [qtk_eq (p := 0) q62, rj0.1.1, nI_1]
    have rd1 : ∀ r Sx, RD XD n r Sx 1 (pshS (popS (iniS S 203 0 0) 0) 0 206 0 0) → MC 5 m_M_read [.int 203, .int 0, .int 0] S r Sx := fun r Sx w => rd00 _ _ (rd_step hp h7 ctx (tk_decl (r := 1) ps (by simp) (ns _) (by show (200 : Int32) ≤ 203; decide) (by show ¬ (209 : Int32) ≤ 203; decide) (Or.inr rfl) (td_203r (by rw [h62]; rfl) hm)) (fun _ => w) (fun q => absurd q (by decide)))
    have e21 : (kI K0 21 2 (nI 1)).2.1 21 2 = nI 1 := by rw [kI_i, va_up_at, va_up_at]
    have rj1 : RJ tx n rf (kI K0 21 2 (nI 1)) (pshS (popS (iniS S 203 0 0) 0) 0 206 0 0) [(206, 0, 0)] 1 rf := rj0.mvz (k1 0 0) (st.2.1 27 (by omega)) pT e21 (by omega) ⟨Nat.le_refl _, by omega⟩ (rj0.2.2.2.2.eq (fun x _ => by rw [st.2.1 42 (by omega)]) (by omega)) (by omega)
    refine rd_res (m := 0) (qe := 0) h4 h6 (by rw [← hK0]; exact kp 1 _ (fun q => absurd q62 q) (fun _ => ⟨rfl, hq.symm⟩)) rd1 rj1 ((k1 0 0).nd nd0) ⟨rfl, by show K.1.1 + 1 = K0.1.1; omega⟩ (Or.inl ⟨rfl, wr 4, wr 5⟩) (by omega) hP2 (by rw [st.1 33 (by decide)]; exact h33) (k0.trans (k1 _ _) (Or.inl rfl) (Or.inl rfl)) st.rfy ⟨⟨Nat.le_refl _, by omega, by omega⟩, fun x _ _ => by omega⟩ (by show K0.1.1 ≤ _; omega)
  · have e62 : ¬ qpk K0 = 62 := by rw [rj0.pk hp]; exact nI_cc (a := 62) hc (by omega) h62
    have sp : SPO (iniS S 203 0 0) (popS (iniS S 203 0 0) 0) := pop_spo
    have rj1 : RJ tx n rf K0 (popS (iniS S 203 0 0) 0) [] 0 rf := rj0.mvz (KRX.refl (q0 := 0) (ql := 0)) rfl (PS.pop ps) rj0.1.1 (Nat.zero_le _) ⟨Nat.le_refl _, by omega⟩ (rj0.2.2.2.2.eq (fun _ _ => rfl) (Nat.le_refl _)) (by omega)
    have rd1 : ∀ r Sx, BPK XD n r Sx (popS (iniS S 203 0 0) 0) 0 0 → MC 5 m_M_read [.int 203, .int 0, .int 0] S r Sx := fun r Sx w => by
      obtain ⟨r', T', u1, u2, u3, u4⟩ := w
      refine rd00 _ _ (rd_step hp h7 ctx (tk_decl (r := r') ps (by simp) (ns _) (by show (200 : Int32) ≤ 203; decide) (by show ¬ (209 : Int32) ≤ 203; decide) u2 (td_203p (nI_cc (a := 62) hc (by omega) h62) ?_ u2)) u4 u3)
      rw [show (popS (iniS S 203 0 0) 0).2 27 0 = nI (tx 0) from ctx] at u1
      exact u1
    rcases pd_0 (X := XD) (tx := tx) (n := n) (rf := rf) K0 (popS (iniS S 203 0 0) 0) 0 rf K.1.1 K0.1.1 P rj1 hp (by rw [sp.1 33 (by decide)]; exact h33) (by omega) ⟨nd0, i3⟩ (Or.inl ⟨wr 5, rfl⟩) ⟨fun _ => wr 5, fun _ => rfl⟩ with ⟨K', S', p', g1, g2, g3, g4, g5, g6, g7⟩ | ⟨K', S', p', n1', m, qe, g1, g2, g3, g4, ⟨g5, g6, g7, g8⟩, ⟨g9, -⟩, ⟨g11, g12, g13⟩, g14, g15, g16, g17, g18⟩
    · exact Or.inl ⟨K', S', p', nul K' (kp 0 K' (fun _ => g1) (fun q => absurd q e62)), g2, g3.2, rd1 _ _ g4, k0.trans g5 (Or.inl rfl) (Or.inr (by omega)), RDF.ofy h6 (sp.rfy.trans g6 (Nat.le_refl _) (Nat.le_refl _) (Nat.le_refl _)), by omega⟩
    · rw [n0] at g4 g9
      exact rd_res (m := m) (qe := qe) h4 h6 (by rw [← hK0]; exact kp 1 _ (fun _ => g1) (fun q => absurd q e62)) (fun r Sx w => rd1 _ _ (g2 _ _ w)) g3 (g14.nd nd0) g4 (Or.inr ⟨by omega, g9 rfl, g11, g12, by omega⟩) (by omega) hP2 g8 (k0.trans g14 (Or.inl rfl) (Or.inr (by omega))) (sp.rfy.trans g15 (Nat.le_refl _) (Nat.le_refl _) (Nat.le_refl _)) g16 (by omega)
end CPDX
