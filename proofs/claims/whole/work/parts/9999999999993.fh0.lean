/-! ===== the face: declare, both at once ===== -/
section CPHD
variable {K K1 K2 K0 K' : cp_K} {S S1 S0 S' : cp_S} {Ls : List Nat} {rf P : Nat}
theorem KT.mono {D D' : Nat} {mk : cp_M} {As : cp_G → List Value} {ci i : Nat} (k : KT D mk As K ci i K') (h : D ≤ D') : KT D' mk As K ci i K' := fun G H h0 z d hd c => k G H h0 z d (Nat.le_trans h hd) c
theorem FK.ky (h : KY K K') : FK 0 K K' := by
  have hi := fun p (a : p ≠ 23) (b : p ≠ 24) => h.i a b
  obtain ⟨I, g, -⟩ := h
  exact ⟨fun p _ _ _ _ _ _ h7 h8 => hi p h7 h8, fun p _ _ _ => by rw [g.2.1], fun p hp => g.2.2.2.2.1 p hp, g.2.2.2.1, g.2.2.2.2.2⟩
theorem FJ.ky (h : KY K K') : FJ K K' := by
  have hi := fun p (a : p ≠ 23) (b : p ≠ 24) => h.i a b
  obtain ⟨I, g, -⟩ := h
  exact ⟨⟨by rw [hi 0 (by decide) (by decide)], by rw [hi 0 (by decide) (by decide)]⟩, hi 2 (by decide) (by decide), by rw [g.2.1]⟩
theorem FS.sy (h : SY S S') : FS rf P S S' := FS.of (fun k hk => h.1 k (by simp only [List.mem_cons, List.not_mem_nil, or_false]; omega)) (fun p hp => h.2 p (by omega))
theorem FG.sy (h : SY S S') : FG S S' := ⟨fun k hk => h.1 k (by simp only [List.mem_cons, List.not_mem_nil, or_false]; omega), fun p hp => h.2 p (by omega)⟩
theorem gL_le {b : Nat → Nat → Int32} {i : Nat} : ∀ (j : Nat), i ≤ j → gL b j + gI b j + i ≤ j + gL b i + gI b i ∧ gL b i ≤ gL b j ∧ gI b i ≤ gI b j
  | 0, h => by rw [show i = 0 by omega]; exact ⟨by omega, by omega, by omega⟩
  | j + 1, h => by
    by_cases e : i = j + 1
    · rw [e]; exact ⟨by omega, by omega, by omega⟩
    · obtain ⟨a1, a2, a3⟩ := gL_le (b := b) (i := i) j (by omega)
      have hI : gI b (j + 1) = gI b j + (if b 39 j = 5 ∧ ¬ b 41 j = 0 then 1 else 0) := rfl
      have hL : gL b (j + 1) = gL b j + (if b 39 j = 5 ∧ b 41 j = 0 then 1 else 0) := rfl
      by_cases h41 : b 41 j = 0
      · rw [if_neg (fun q => q.2 h41)] at hI
        rw [hI, hL]
        split
        · exact ⟨by omega, by omega, by omega⟩
        · exact ⟨by omega, by omega, by omega⟩
      · rw [if_neg (fun q => h41 q.2)] at hL
        rw [hI, hL]
        split
        · exact ⟨by omega, by omega, by omega⟩
        · exact ⟨by omega, by omega, by omega⟩
theorem PTS.chs {b : Nat → Nat → Int32} {ar : Nat → Nat} {k z : Nat} {R : (Nat → Prop) → Nat → Prop} (n9 : nd K z 9) (s16 : K.2.1 z 0 = 16) (x0 : K.2.2.1 z 6 = 0) : ∀ (rem q pt : Nat) (sc : Nat → Prop) (m d : Nat), PTS K b ar k z R rem q pt sc m d → ∃ ss : List Int32, CHS K ss q ∧ ss.length = rem + 1 ∧ cso 14 ss = m ∧ (cso 15 ss = 0 ↔ ∀ x, x < rem → ¬ b 44 (pt + x) = 2)
  | 0, q, pt, sc, m, d, h => by
    obtain ⟨h1, h2, -⟩ := h
    subst h1
    subst h2
    exact ⟨[16], ⟨n9, s16, x0⟩, rfl, rfl, fun _ x hx => absurd hx (by omega), fun _ => rfl⟩
  | rem + 1, q, pt, sc, m, d, h => by
    obtain ⟨-, d1, d2, -, h3⟩ := h
    rcases h3 with ⟨h3, h4⟩ | ⟨m', nm, h3, h4, h5⟩
    · obtain ⟨ss, a1, a2, a3, a4⟩ := PTS.chs n9 s16 x0 rem _ _ _ _ _ h4
      refine ⟨15 :: ss, ⟨h3.1, h3.2.1, a1⟩, by rw [List.length_cons, a2], ?_, fun e => ?_, fun e => ?_⟩
      · show (if (15 : Int32) = 14 then 1 else 0) + cso 14 ss = m
        rw [if_neg (by decide), a3, Nat.zero_add]
      · exfalso
        have e' : (if (15 : Int32) = 15 then 1 else 0) + cso 15 ss = 0 := e
        rw [if_pos rfl] at e'
        omega
      · exact absurd h3.2.2.1 (e 0 (by omega))
    · obtain ⟨ss, a1, a2, a3, a4⟩ := PTS.chs n9 s16 x0 rem _ _ _ _ _ h5
      have ne : ¬ b 44 pt = 2 := by
        rcases h4.2.2.2.2 with ⟨x, -, -, e, -⟩ | ⟨-, e, -⟩
        · rw [e]; decide
        · rw [e]; decide
      refine ⟨14 :: ss, ⟨h4.1, h4.2.1, a1⟩, by rw [List.length_cons, a2], ?_, fun e => ?_, fun e => ?_⟩
      · show (if (14 : Int32) = 14 then 1 else 0) + cso 14 ss = m
        rw [if_pos rfl, a3, h3, Nat.add_comm]
      · have e' : (if (14 : Int32) = 15 then 1 else 0) + cso 15 ss = 0 := e
        rw [if_neg (by decide), Nat.zero_add] at e'
        intro x hx
        by_cases x0 : x = 0
        · rw [x0]; exact ne
        · have := a4.mp e' (x - 1) (by omega)
          rw [show pt + 1 + (x - 1) = pt + x by omega] at this
          exact this
      · show (if (14 : Int32) = 15 then 1 else 0) + cso 15 ss = 0
        rw [if_neg (by decide), Nat.zero_add]
        refine a4.mpr (fun x hx => ?_)
        have := e (x + 1) (by omega)
        rw [show pt + (x + 1) = pt + 1 + x by omega] at this
        exact this
theorem f_declare (h : INV K S Ls rf P) {c : Nat} (hc : c < 65536) :
    (∃ ci x S', KT 372 m_P_declare (fun G => [.ref (cp_b G + 0), .int (nI c)]) K ci K.1.1 (kN K 99) ∧ MC 10 m_M_declare [.int (nI c)] S (some (.int 0)) S' ∧ INV K S' Ls rf P ∧ S'.1 0 = x ∧ ((ci = 12 ∧ x = 1) ∨ (ci = 13 ∧ x = 2))) ∨
    ∃ r K' S' Ls' rf' P', KC 372 m_P_declare (fun G => [.ref (cp_b G + 0), .int (nI c)]) K (fun _ => some (.int r)) K' ∧ MC 10 m_M_declare [.int (nI c)] S (some (.int r)) S' ∧ INV K' S' Ls' rf' P' ∧ S'.1 0 = 0 ∧ GRW 100 K K' := by
  have h26 := h.rf26
  rcases refuse_m h hc with ⟨a1, a2, a3⟩ | ⟨a1, a2, a3, a4⟩ | ⟨a1, ⟨a2, a3, a4⟩, a5, a6⟩
  · exact Or.inl ⟨12, 1, _, t_P_declare (D := 364) (Or.inr ⟨12, K.1.1, kN K 99, KT.mono a2 (by omega), rfl, rfl⟩), c_M_declare (b_M_declare_0 ⟨0, _, a3, fun q => absurd rfl q, fun _ => ⟨rfl, rfl⟩⟩), h.f0 (x := 1), rfl, Or.inl ⟨rfl, rfl⟩⟩
  · exact Or.inl ⟨13, 2, _, t_P_declare (D := 364) (Or.inr ⟨13, K.1.1, kN K 99, KT.mono a3 (by omega), rfl, rfl⟩), c_M_declare (b_M_declare_0 ⟨0, _, a4, fun q => absurd rfl q, fun _ => ⟨rfl, rfl⟩⟩), h.f0 (x := 2), rfl, Or.inr ⟨rfl, rfl⟩⟩
  refine Or.inr ?_
  obtain ⟨S1, hS1⟩ : ∃ S1 : cp_S, S1 = (va_up S.1 0 0, S.2) := ⟨_, rfl⟩
  rw [← hS1] at a6
  have s1 : ∀ k, k ≠ 0 → S1.1 k = S.1 k := fun k hk => by rw [hS1]; exact cp_up_ne hk
  have s10 : S1.1 0 = 0 := by rw [hS1]; rfl
  have s2 : S1.2 = S.2 := by rw [hS1]
  obtain ⟨l, hl⟩ : ∃ l, l = c - 65 := ⟨_, rfl⟩
  rw [← hl] at a2 a3 a4
  have l26 : l < 26 := by omega
  have ec : nI c = nI (65 + l) := by congr 1; omega
  have ecl : nI c - 65 = nI l := by
    rw [ec]
    have := pk_sub (a := 65 + l) (b := 65) (by omega)
    rw [show 65 + l - 65 = l by omega] at this
    exact this
  have hlen := h.len l26 a4
  have ha86 : 86 ≤ K.1.1 := h.2.2.2.2.2.2.2.2
  have h16 : S1.1 16 = nI rf := (s1 16 (by decide)).trans h.2.2.1.2.2.1.1
  have h23 : S1.1 23 = nI P := (s1 23 (by decide)).trans h.2.2.1.2.2.1.2
  have h58 : S1.1 58 = 0 := (s1 58 (by decide)).trans h.2.2.2.2.2.1.2
  have fs1 : FS rf P S S1 := FS.of (fun k hk => s1 k (by omega)) (fun p _ => by rw [s2])
  have fg1 : FG S S1 := ⟨fun k hk => s1 k (by omega), fun p _ => by rw [s2]⟩
  obtain ⟨K1, tx, n, o1, ⟨fk1, fj1⟩, o4, ⟨z7, zB, z9, z11⟩, ⟨o9, o10⟩, o11⟩ := open_m h
  have h86 : 86 ≤ K1.1.1 := by rw [o10]; exact ha86
  have rin : RIN tx n rf K1 S1 := o11 K1 S1 rfl rfl rfl rfl (s1 1 (by decide)) (s1 16 (by decide)) (by rw [s2])
  have hn80 : n ≤ 80 := rin.2.1.2.2.1
  have rk : ∀ (K3 : cp_K), KRX K1.1.1 K1.1.1 K1 K3 → (FJ K K3 ∧ K3.2.1 0 1 = 0 ∧ K3.2.1 23 4 = S1.1 60) ∧ (∀ q, rsz K3 q = rsz K1 q) ∧ 86 ≤ K3.1.1 := fun K3 b => by
    have j := FJ.krx b h86
    obtain ⟨b1, b2, b3, b4, b5, b6, b7⟩ := b
    refine ⟨⟨fj1.trans j, ?_, ?_⟩, fun q => by unfold rsz; rw [b7], by omega⟩
    · rw [b4 0 (by omega) (by decide) 1 (Or.inl (by omega))]; exact o4
    · rw [b4 23 (by omega) (by decide) 4 (Or.inl (by omega)), o9, s1 60 (by decide)]; exact h.2.2.2.2.1
  have rs : ∀ (S3 : cp_S), RDF S1 S3 rf P → (S3.1 0 = 0 ∧ S3.1 1 = 0 ∧ S3.1 58 = 0 ∧ S3.1 60 = S1.1 60 ∧ S3.1 23 = nI P ∧ S3.1 14 = nI Ls.length) ∧ S3.1 20 = nI rf ∧ FS rf P S S3 ∧ FG S S3 := fun S3 a => ⟨⟨(a.1 0 (by decide)).trans s10, a.2.2.2.1.1, (a.1 58 (by decide)).trans h58, a.1 60 (by decide), (a.1 23 (by decide)).trans h23, (a.1 14 (by decide)).trans ((s1 14 (by decide)).trans h.2.2.1.2.2.2.1.2)⟩, a.2.2.2.1.2, fs1.trans (FS.rdf (by omega) a), fg1.trans (FG.rdf a)⟩
  rcases read_decl_m rin h23 (by omega) with ⟨K3, S3, p', r1, r2, r3, r4, r5, r6, r7⟩ | ⟨K3, S3, n1, m, z, j, res, r1, r2, rpl, ⟨rn, rz, rm, r34, r33⟩, rj, r5, r6, r7, r8, r9, r10⟩
  · -- the text is no declaration
    obtain ⟨⟨j3, c1, c23⟩, cz, -⟩ := rk K3 r5
    obtain ⟨⟨d0, d1, d58, d60, d23, d14⟩, d20, fs3, fg3⟩ := rs S3 r6
    obtain ⟨S', hS'⟩ : ∃ S' : cp_S, S' = (va_up S3.1 16 (nI rf), S3.2) := ⟨_, rfl⟩
    have s' : ∀ k, k ≠ 16 → S'.1 k = S3.1 k := fun k q1 => by rw [hS']; exact cp_up_ne q1
    obtain ⟨i1, i2⟩ := INV.fg h (fk1.trans (FK.krx r5 r7)) j3 (fs3.trans (by rw [hS']; exact FS.up (by decide))) (fg3.trans (by rw [hS']; exact FG.up (by decide))) c1 ((s' 1 (by decide)).trans d1) (by rw [hS']; rfl) (c23.trans ((s' 60 (by decide)).trans d60).symm) ((s' 58 (by decide)).trans d58) ⟨by rw [cz, z7]; omega, by rw [cz]; exact z9, by rw [cz]; exact z11, 0, by omega, by unfold BS; rw [cz, cz, cz]; exact zB⟩
    have p0 : ¬ nI p' < 0 := nI_pos (by omega)
    have p0' : 0 ≤ nI p' := nI_le (a := 0) (by omega) (by omega)
    refine ⟨-1 - nI p', K3, S', Ls, rf, P, c_P_declare (D := 364) (Or.inl ⟨K, a5.mono (by omega), K1, o1.mono (by omega), 0, K3, r1.mono (by omega), fun q => absurd rfl q, fun _ => ⟨by rw [r2], rfl⟩⟩), c_M_declare (b_M_declare_0 ⟨1, S1, a6, fun _ => ⟨nI p', S3, r4, fun _ => b_M_declare_51 ⟨fun q => absurd q p0, fun _ => ⟨rfl, by rw [h16]; exact hS'⟩⟩, fun q => absurd p0' q⟩, fun q => absurd q (by decide)⟩), i1, (s' 0 (by decide)).trans d0, i2.le (by omega)⟩
  · obtain ⟨⟨j3, c1, c23⟩, cz, c86⟩ := rk K3 r5
    obtain ⟨⟨d0, d1, d58, d60, d23, d14⟩, d20, fs3, fg3⟩ := rs S3 r6
    obtain ⟨T5, T7, m1, m2, m3, m3', m4', m5⟩ := nn_m (S := S3)
    have fk3 : FK (0 + 90) K K3 := fk1.trans (FK.krx r5 r10)
    obtain ⟨T8, hT8⟩ : ∃ T8 : cp_S, T8 = (va_up (va_up T7.1 61 0) 58 1, T7.2) := ⟨_, rfl⟩
    have t8 : ∀ k, k ≠ 58 → k ≠ 61 → k ≠ 35 → k ≠ 40 → k ≠ 42 → T8.1 k = S3.1 k := fun k q1 q2 q3 q4 q5 => by rw [hT8]; show va_up (va_up T7.1 61 0) 58 1 k = _; rw [cp_up_ne q1, cp_up_ne q2, m3 k q3 q4 q5]
    have t82 : ∀ p, p ≠ 63 → p ≠ 64 → T8.2 p = S3.2 p := fun p a b => by rw [hT8]; exact m4' p a b
    have t8' : T8.1 35 = 0 ∧ T8.1 40 = 0 ∧ T8.1 42 = 0 ∧ T8.1 61 = 0 ∧ T8.1 58 = 1 := by rw [hT8]; exact ⟨m3'.1, m3'.2.1, m3'.2.2, rfl, rfl⟩
    have fs8 : FS rf P S T8 := fs3.trans (FS.of (fun k hk => t8 k (by omega) (by omega) (by omega) (by omega) (by omega)) (fun p hp => t82 p (by omega) (by omega)))
    have fg8 : FG S T8 := fg3.trans ⟨fun k hk => t8 k (by omega) (by omega) (by omega) (by omega) (by omega), fun p hp => t82 p (by omega) (by omega)⟩
    obtain ⟨⟨w1, w2', w3'⟩, w3⟩ := r8
    obtain ⟨K4, hK4⟩ : ∃ K4, K4 = tbegin K3 1 := ⟨_, rfl⟩
    have fk34 : FK 0 K3 K4 := by rw [hK4]; exact tbg.2
    have i4 : ∀ p, p ≠ 24 → K4.2.1 p = K3.2.1 p := fun p hp => by rw [hK4]; exact tbg_i hp
    have w4 : K4.2.2 = K3.2.2 ∧ K4.1 = K3.1 := by rw [hK4]; exact ⟨rfl, rfl⟩
    have j34 : FJ K3 K4 := ⟨⟨by rw [i4 0 (by decide)], by rw [i4 0 (by decide)]⟩, i4 2 (by decide), by rw [w4.1]⟩
    have z4 : ∀ q, rsz K4 q = rsz K1 q := fun q => by rw [← cz]; unfold rsz; rw [w4.1]
    have fk4 : FK 90 K K4 := (fk3.trans fk34).le (by omega)
    obtain ⟨ar, ar1, ar2, ar3, ar4⟩ := h.dic (c := 90) (x := 1)
    have tst : TST ar rf (plx K4 T8 rf n1) 0 0 K4 T8 (fun _ _ => False) 0 0 [] 0 0 L0 := by
      refine tst_0 (np := n) (ar1 K4 T8 fk4 fs8) (by rw [z4]; exact z7) (by unfold BS; rw [z4, z4, z4]; exact zB) (by rw [z4]; exact z9) (by rw [z4]; exact z11) t8'.1 t8'.2.1 t8'.2.2.1 (fun c hc => by rw [hT8]; exact (m5 c hc).2) ((t8 20 (by decide) (by decide) (by decide) (by decide) (by decide)).trans d20) (by rw [hK4]; exact tbg_4.2) ⟨fun q => ?_, fun q => ?_⟩ ?_ (by omega) (by omega) (by omega)
      · rw [hK4, tbg_4.1] at q; exact absurd q (by decide)
      · rw [t8'.2.2.2.2] at q; exact absurd q (by decide)
      · unfold PLI
        rw [t82 42 (by decide) (by decide)]
        exact r9
    have nk : NK K3 K4 := ⟨fun q k hq => by rw [i4 q (by omega)], by rw [w4.1], fun q c hq => ⟨hq.1, by rw [w4.2]; exact hq.2.1, by rw [w4.2]; exact hq.2.2⟩⟩
    have bk : BK S3.2 T8.2 := fun p hp => t82 p (by omega) (by omega)
    obtain ⟨rpt3, rrs3⟩ := rpl (plx K4 T8 rf n1) (fun q' i' e1 e2 e3 e4 => ⟨e1, e2, e3, by rw [i4 q' (by omega), t82 42 (by decide) (by decide)]; exact e4⟩)
    have rpt4 := RPT.mv nk bk _ _ _ _ _ rpt3
    have rrs4 := RRS.mv nk bk rrs3
    have hH : gH T8.2 n1 = gH T8.2 rf := gH_0 n1 w1 (fun x x1 x2 => by rw [t82 39 (by decide) (by decide)]; exact w3 x x1 x2)
    have eI : gI T8.2 = gI S3.2 := by unfold gI; rw [t82 39 (by decide) (by decide), t82 41 (by decide) (by decide)]
    rw [← eI] at w3'
    obtain ⟨gl1, gl2, gl3⟩ := gL_le (b := T8.2) (i := rf) n1 w1
    have s60 : K4.2.1 23 4 = T8.1 60 := by rw [i4 23 (by decide), c23, t8 60 (by decide) (by decide) (by decide) (by decide) (by decide), d60]
    have k04 : K4.2.1 0 1 = 0 := by rw [i4 0 (by decide)]; exact c1
    have q4 : (tbegin K3 1).2.2.1 K1.1.1 4 = K3.2.2.1 K1.1.1 4 := by rw [← hK4, w4.1]
    have q0 : ¬ K1.1.1 = 0 := by omega
    have base : ∀ (K' : cp_K) (S' : cp_S), KY K4 K' → SY T8 S' → FK 90 K K' ∧ FJ K K' ∧ FS rf P S S' ∧ FG S S' ∧ K'.2.1 0 1 = 0 ∧ (S'.1 0 = 0 ∧ S'.1 1 = 0) := fun K' S' kx sx => by
      have t : ∀ k, k ∉ ([35, 40, 42, 44, 58, 59, 60, 61, 62, 63, 64, 70] : List Nat) → S'.1 k = S3.1 k := fun k hk => (sx.1 k (fun e => hk (by simp only [List.mem_cons, List.not_mem_nil, or_false] at e ⊢; omega))).trans (t8 k (fun e => hk (by rw [e]; decide)) (fun e => hk (by rw [e]; decide)) (fun e => hk (by rw [e]; decide)) (fun e => hk (by rw [e]; decide)) (fun e => hk (by rw [e]; decide)))
      exact ⟨(fk4.trans (FK.ky kx)).le (by omega), (j3.trans j34).trans (FJ.ky kx), fs8.trans (FS.sy sx), fg8.trans (FG.sy sx), by rw [kx.i (by decide) (by decide)]; exact k04, (t 0 (by decide)).trans d0, (t 1 (by decide)).trans d1⟩
    have mstart : ∀ r S', (∃ r9 T8', JJ 9 m_M_isRight (some (.int r9)) T8' 25 (LI res 1 P) T8 ∧ ((¬ (r9 : Int32) = 0 → ∃ T15, MC 0 m_M_remember [.int (nI l), .int 1, .int (T8'.1 61)] (va_up T8'.1 23 (T8'.1 33), va_up (va_up (va_up (va_up T8'.2 32 (upd (T8'.2 32) l (nI rf))) 33 (upd (T8'.2 33) l (T8'.1 23))) 34 (upd (T8'.2 34) l (T8'.1 33 - T8'.1 23))) 35 (upd (T8'.2 35) l res)) none T15 ∧ (r = T15.1 61 ∧ S' = T15)) ∧ ((r9 : Int32) = 0 → (r = -100 - T8'.1 59 ∧ S' = (va_up T8'.1 16 (nI rf), T8'.2))))) → MC 10 m_M_declare [.int (nI c)] S (some (.int r)) S' := fun r S' ⟨r9, T8', b1, b2, b3⟩ => by
      have v1 : vp_in (nI l) 26 := vp_in_nI l26 (by decide)
      have b1' : MC 9 m_M_isRight [.int res] S3 (some (.int r9)) T8' := by
        refine c_M_isRight (b_M_isRight_0 ⟨T5, m1, T7, m2, ?_⟩)
        rw [← hT8, show T7.1 23 = nI P from (m3 23 (by decide) (by decide) (by decide)).trans d23]
        exact b1
      refine c_M_declare (b_M_declare_0 ⟨1, S1, a6, fun _ => ⟨-1, S3, r2, fun q => absurd q (by decide), fun _ => ⟨r9, T8', by rw [r34]; exact b1', fun q => ?_, fun q => ?_⟩⟩, fun q => absurd q (by decide)⟩)
      · obtain ⟨T15, e1, e2, e3⟩ := b2 q
        rw [ecl, h16, r34, nI_clamp (show l < 2 ^ 31 by omega)]
        exact ⟨v1, v1, v1, v1, T15, e1, by rw [e2], e3⟩
      · obtain ⟨e2, e3⟩ := b3 q
        rw [h16]
        exact b_M_declare_51 ⟨fun _ => ⟨by rw [e2], e3⟩, fun q => absurd (by decide) q⟩
    rcases dparts (ar := ar) (p1 := K1.1.1) ar4 (show 8 ≤ 9 by omega) m (K3.2.2.1 K1.1.1 4) P rf 0 0 (fun _ => False) K4 T8 _ 0 0 0 tst (fun _ _ e => e.elim) rpt4 rrs4 (by rw [t8 33 (by decide) (by decide) (by decide) (by decide) (by decide)]; exact r33) t8'.2.2.2.1 (by rw [t8'.2.2.2.2]; decide) (fun c hc q => by rw [hT8] at q; exact absurd (m5 c hc).2 q) hH ⟨rm, by omega, by omega, by omega⟩ ⟨rj, by omega, by omega⟩ ⟨Nat.le_refl _, Nat.le_refl _⟩ (fun Y y1 y2 => by
        by_cases hc : gI T8.2 n1 - gI T8.2 rf ≤ 16
        · omega
        · omega) (by rw [z4, z7]; omega) with ⟨K5, S5, y, b1, b2, ⟨⟨b3, b4, b5⟩, b6, ⟨w, b7, b8⟩, b9, b10, b11, b12⟩⟩ | ⟨K5, S5, mp, d, b1, b2, ⟨b3, b4, b5⟩, ⟨b9, b10, b11, b12⟩, b6, b7, b8, b8'⟩
    · -- a part is wrong
      obtain ⟨e1, e2, e3, e4, e5, e6, e7⟩ := base K5 S5 b3 b4
      obtain ⟨S', hS'⟩ : ∃ S' : cp_S, S' = (va_up (va_up S5.1 58 0) 16 (nI rf), S5.2) := ⟨_, rfl⟩
      have s' : ∀ k, k ≠ 16 → k ≠ 58 → S'.1 k = S5.1 k := fun k q1 q2 => by rw [hS']; show va_up (va_up S5.1 58 0) 16 (nI rf) k = _; rw [cp_up_ne q1, cp_up_ne q2]
      have s2' : S'.2 = S5.2 := by rw [hS']
      obtain ⟨i1, i2⟩ := INV.fg h e1 e2 (e3.trans (FS.of (fun k hk => s' k (by omega) (by omega)) (fun p _ => by rw [s2']))) (e4.trans ⟨fun k hk => s' k (by omega) (by omega), fun p _ => by rw [s2']⟩) e5 ((s' 1 (by decide) (by decide)).trans e7) (by rw [hS']; rfl) ((b5 s60).trans (s' 60 (by decide) (by decide)).symm) (by rw [hS']; rfl) ⟨by omega, b10, b11, b12⟩
      refine ⟨-100 - y, K5, S', Ls, rf, P, c_P_declare (D := 364) (Or.inl ⟨K, a5.mono (by omega), K1, o1.mono (by omega), K1.1.1, K3, r1.mono (by omega), fun _ => ⟨y, K5, c_T_wrongInDeclaration (D := 363) ⟨Or.inr rfl, rn, by rw [q4, ← hK4]; exact b1⟩, fun q => ?_, fun _ => ⟨rfl, rfl⟩⟩, fun q => absurd q q0⟩), mstart _ _ ⟨0, _, b2, fun q => absurd rfl q, fun _ => ⟨?_, hS'⟩⟩, i1, (s' 0 (by decide) (by decide)).trans e6, i2.le (by omega)⟩
      · rw [b8] at q
        exact absurd q (nI_m1 (by omega))
      · show -100 - y = -100 - S5.1 59
        rw [b6]
    · -- it is right
      obtain ⟨e1, e2, e3, e4, e5, e6, e7⟩ := base K5 S5 b3 b4
      have nk5 := b3.nk
      have rpt5 := RPT.mv nk5 b4.bk _ _ _ _ _ rpt4
      have rrs5 := RRS.mv nk5 b4.bk rrs4
      have nt5 : nd K5 K1.1.1 9 := nk5.2.2 _ _ (nk.2.2 _ _ rn)
      have q54 : K5.2.2.1 K1.1.1 4 = K3.2.2.1 K1.1.1 4 := by rw [nk5.2.1, w4.1]
      have q55 : K5.2.2.1 K1.1.1 5 = z := by rw [nk5.2.1, w4.1]; exact rz
      have h865 : 86 ≤ K5.1.1 := by have := e1.2.2.2.1; omega
      obtain ⟨ss, x1, x2, x3, x4⟩ := PTS.chs rrs5.1 rrs5.2.1 rrs5.2.2.1 m _ P _ mp d b6
      have kin := einit_c (K := K5) (p3 := K1.1.1) (ss := ss) nt5 l26 (by omega) (by rw [q54]; exact x1) h865
      have i32 : K5.2.1 3 2 = nI Ls.length := by rw [e1.1 3 (by omega) (by decide) (by decide) (by decide) (by decide) (by decide) (by decide) (by decide)]; exact h.2.2.1.2.2.2.1.1
      obtain ⟨K', ke, en⟩ := ent_c (K := K5) (x2 := 0) (cnt := nI (cso 14 ss)) (cond := if cso 15 ss = 0 then 0 else 1) (p3 := K1.1.1) l26 hlen i32 h865
      have t5 : ∀ k, k ∉ ([35, 40, 42, 44, 59, 60, 61, 62, 63, 64, 70] : List Nat) → k ≠ 58 → S5.1 k = S3.1 k := fun k hk h58 => (b4.1 k hk).trans (t8 k h58 (fun e => hk (by rw [e]; decide)) (fun e => hk (by rw [e]; decide)) (fun e => hk (by rw [e]; decide)) (fun e => hk (by rw [e]; decide)))
      have u23 : S5.1 23 = nI P := (t5 23 (by decide) (by decide)).trans d23
      have u33 : S5.1 33 = nI (P + m) := (t5 33 (by decide) (by decide)).trans r33
      have u16 : S5.1 16 = nI n1 := (t5 16 (by decide) (by decide)).trans r7
      have u14 : S5.1 14 = nI Ls.length := (t5 14 (by decide) (by decide)).trans d14
      have usb : nI (P + m) - nI P = nI m := by
        have := pk_sub (a := P + m) (b := P) (by omega)
        rw [show P + m - P = m by omega] at this
        exact this
      have u61 : S5.1 61 = nI mp := by rw [b7, Nat.zero_add]
      obtain ⟨S7, hS7⟩ : ∃ S7 : cp_S, S7 = (va_up (va_up S5.1 58 0) 23 (nI (P + m)), va_up (va_up (va_up (va_up S5.2 32 (upd (S5.2 32) l (nI rf))) 33 (upd (S5.2 33) l (nI P))) 34 (upd (S5.2 34) l (nI m))) 35 (upd (S5.2 35) l res)) := ⟨_, rfl⟩
      have s71 : ∀ k, k ≠ 23 → k ≠ 58 → S7.1 k = S5.1 k := fun k k1 k2 => by rw [hS7]; show va_up (va_up S5.1 58 0) 23 (nI (P + m)) k = _; rw [cp_up_ne k1, cp_up_ne k2]
      have s72 : ∀ p, ¬ (32 ≤ p ∧ p ≤ 35) → S7.2 p = S5.2 p := fun p hp => by
        rw [hS7]
        show va_up (va_up (va_up (va_up S5.2 32 (upd (S5.2 32) l (nI rf))) 33 (upd (S5.2 33) l (nI P))) 34 (upd (S5.2 34) l (nI m))) 35 (upd (S5.2 35) l res) p = _
        rw [cp_up_ne (by omega), cp_up_ne (by omega), cp_up_ne (by omega), cp_up_ne (by omega)]
      have s73 : S7.2 32 = upd (S5.2 32) l (nI rf) ∧ S7.2 33 = upd (S5.2 33) l (nI P) ∧ S7.2 34 = upd (S5.2 34) l (nI m) ∧ S7.2 35 = upd (S5.2 35) l res := by rw [hS7]; exact ⟨rfl, rfl, rfl, rfl⟩
      have s7s : S7.1 23 = nI (P + m) ∧ S7.1 58 = 0 := by rw [hS7]; exact ⟨rfl, rfl⟩
      obtain ⟨S', g1, g2, g5, g6, g7, g8⟩ := rem_r (S := S7) (kd := 1) (cn := nI mp) l26 hlen (by rw [s71 14 (by decide) (by decide)]; exact u14)
      have mcl : MC 10 m_M_declare [.int (nI c)] S (some (.int (nI mp))) S' := by
        refine mstart _ _ ⟨1, (va_up S5.1 58 0, S5.2), b2, fun _ => ⟨S', ?_, ?_, rfl⟩, fun q => absurd q (by decide)⟩
        · show MC 0 m_M_remember [.int (nI l), .int 1, .int (S5.1 61)] (va_up (va_up S5.1 58 0) 23 (S5.1 33), va_up (va_up (va_up (va_up S5.2 32 (upd (S5.2 32) l (nI rf))) 33 (upd (S5.2 33) l (S5.1 23))) 34 (upd (S5.2 34) l (S5.1 33 - S5.1 23))) 35 (upd (S5.2 35) l res)) none S'
          rw [u33, u23, usb, u61, ← hS7]
          exact g1
        · rw [g2, cp_up_ne (by decide), s71 61 (by decide) (by decide), u61]
      have kcl : KC 372 m_P_declare (fun G => [.ref (cp_b G + 0), .int (nI c)]) K (fun _ => some (.int (nI mp))) K' := by
        refine c_P_declare (D := 364) (Or.inl ⟨K, a5.mono (by omega), K1, o1.mono (by omega), K1.1.1, K3, r1.mono (by omega), fun _ => ⟨-1, K5, c_T_wrongInDeclaration (D := 363) ⟨Or.inr rfl, rn, by rw [q4, ← hK4]; exact b1⟩, fun _ => ⟨_, by rw [ec]; exact kin.mono (by omega), _, K', ke.mono (by omega), by rw [x3], rfl⟩, fun q => absurd rfl q⟩, fun q => absurd q q0⟩)
      -- the new state
      have t30 : S'.2 30 l = 1 := by rw [g6, pk_us]
      have t31 : S'.2 31 l = nI mp := by rw [g7, pk_us]
      have t32 : S'.2 32 l = nI rf := by rw [g5 32 (by decide) (by decide) (by decide), s73.1, pk_us]
      have t33 : S'.2 33 l = nI P := by rw [g5 33 (by decide) (by decide) (by decide), s73.2.1, pk_us]
      have t34 : S'.2 34 l = nI m := by rw [g5 34 (by decide) (by decide) (by decide), s73.2.2.1, pk_us]
      have t35 : S'.2 35 l = res := by rw [g5 35 (by decide) (by decide) (by decide), s73.2.2.2, pk_us]
      have hb : ∀ p, 30 ≤ p → p ≤ 36 → ∀ c, c ≠ l → S'.2 p c = S5.2 p c := fun p p1 p2 c hcl => by
        rcases (show p = 30 ∨ p = 31 ∨ p = 32 ∨ p = 33 ∨ p = 34 ∨ p = 35 ∨ p = 36 by omega) with rfl | rfl | rfl | rfl | rfl | rfl | rfl
        · rw [g6, pk_un hcl, s72 30 (by omega)]
        · rw [g7, pk_un hcl, s72 31 (by omega)]
        · rw [g5 32 (by decide) (by decide) (by decide), s73.1, pk_un hcl]
        · rw [g5 33 (by decide) (by decide) (by decide), s73.2.1, pk_un hcl]
        · rw [g5 34 (by decide) (by decide) (by decide), s73.2.2.1, pk_un hcl]
        · rw [g5 35 (by decide) (by decide) (by decide), s73.2.2.2, pk_un hcl]
        · rw [g5 36 (by decide) (by decide) (by decide), s72 36 (by omega)]
      have hk : ∀ k, k ≠ 14 → k ≠ 23 → k ≠ 58 → S'.1 k = S5.1 k := fun k k0 k1 k2 => by rw [g2, cp_up_ne k0, s71 k k1 k2]
      have ha : ∀ p, ¬ (30 ≤ p ∧ p ≤ 36) → p ≠ 38 → S'.2 p = S5.2 p := fun p hp h38 => by rw [g5 p (by omega) (by omega) h38, s72 p (by omega)]
      have e30 : ∀ c, S5.2 30 c = S.2 30 c ∧ S5.2 31 c = S.2 31 c := fun c => by rw [e3.2.1 30 (by omega) (by omega), e3.2.1 31 (by omega) (by omega)]; exact ⟨rfl, rfl⟩
      have ev : ∀ (K2 : cp_K) (b2 : Nat → Nat → Int32) (ar : Nat → Nat), KFX K' K2 → OLD n1 S'.2 b2 → OLP (P + m) S'.2 b2 → OLC K' S'.2 K2 b2 (l :: Ls) → AOK b2 ar → (S'.2 30 l = 1 → CST K2 b2 ar l) ∧ (S'.2 30 l = 2 → PROG K2 b2 ar l ∧ ∃ m, m ≤ 4 ∧ b2 31 l = nI m ∧ K2.2.1 (K2.2.2.1 4 l) 2 = nI m) := fun K2 b2 ar' kx od op oc ok => by
        refine ⟨fun _ => ?_, fun e => absurd (t30.symm.trans e) (by decide)⟩
        obtain ⟨o1', o2', -⟩ := oc l List.mem_cons_self
        obtain ⟨en1, en2⟩ := en.nd h865
        have k5x : KFX K5 K2 := en.kfx.trans kx
        have w31 : b2 31 l = nI mp := (o2' 31 (by omega) (by omega)).trans t31
        have arl : ar' l = mp := by
          have this := ok l l26 ((o2' 30 (by omega) (by omega)).trans t30)
          have e := this.1
          rw [w31] at e
          exact ((nI_eq (by omega) (by omega)).mp e).symm
        have e4' : K2.2.2.1 4 l = K5.1.1 := o1'.trans en2
        rw [en2] at en1
        have n2 : nd K2 K5.1.1 10 := kx.n en1
        obtain ⟨-, -, -, -, -, y1, y2, y3, y4⟩ := en
        have z4' : K2.2.2.1 K5.1.1 4 = K1.1.1 := by rw [kx.r en1]; exact y4
        have lets : ∀ c ∈ Ls, b2 30 c = S.2 30 c ∧ b2 31 c = S.2 31 c := fun c hcm => by
          obtain ⟨-, o3, -⟩ := oc c (List.mem_cons_of_mem _ hcm)
          have hcl : c ≠ l := fun e => a4 (e ▸ hcm)
          rw [o3 30 (by omega) (by omega), o3 31 (by omega) (by omega), hb 30 (by omega) (by omega) c hcl, hb 31 (by omega) (by omega) c hcl]
          exact e30 c
        have hae := ar_eq h ar2 ar3 ok lets
        have od5 : OLD n1 S5.2 b2 := fun p p1 p2 x hx => by rw [od p p1 p2 x hx, ha p (by omega) (by omega)]
        have op5 : OLP (P + m) S5.2 b2 := fun p p1 p2 x hx => by rw [op p p1 p2 x hx, ha p (by omega) (by omega)]
        have hl5 : ∀ c, c < 26 → ¬ S5.2 30 c = 0 → b2 30 c = S5.2 30 c ∧ b2 31 c = S5.2 31 c := fun c hc26 q => by
          rw [(e30 c).1] at q ⊢
          rw [(e30 c).2]
          refine lets c (Classical.byContradiction fun q' => q (h.2.2.1.2.1 c hc26 q').1)
        have pts := PTS.ft (ar' := ar') (R' := RES K2 b2 ar' 8 l z) k5x od5 op5 hl5 hae (fun sc d r => RSX.ft k5x od5 hae (Nat.le_refl _) (by omega) rrs5 ((o2' 35 (by omega) (by omega)).trans t35) r) rj (by omega) m _ P _ mp d rf rpt5 (Nat.le_refl _) b6
        refine ⟨8, P, m, d, by omega, rm, by omega, by omega, by omega, by rw [arl]; exact w31, (o2' 33 (by omega) (by omega)).trans t33, (o2' 34 (by omega) (by omega)).trans t34, by rw [e4']; exact n2, by rw [e4', kx.i en1]; exact y1, by rw [e4', kx.i en1, arl, y2, x3], ?_, by rw [e4', z4']; exact k5x.n nt5, ?_⟩
        · rw [e4', kx.i en1, y3]
          have : (∀ x, x < m → ¬ b2 44 (P + x) = 2) ↔ cso 15 ss = 0 := by
            rw [x4]
            refine ⟨fun q x hx => ?_, fun q x hx => ?_⟩
            · rw [← op5 44 (by omega) (by omega) (P + x) (by omega)]; exact q x hx
            · rw [op5 44 (by omega) (by omega) (P + x) (by omega)]; exact q x hx
          rw [this]
          by_cases q : cso 15 ss = 0
          · rw [if_pos q]; exact ⟨fun _ => q, fun _ => rfl⟩
          · rw [if_neg q]; exact ⟨fun e => absurd e (by decide), fun e => absurd e q⟩
        · rw [e4', z4', k5x.r nt5, q54, q55, arl]
          exact pts
      have htx : TXT K' S' := by
        refine ⟨fun j hj => ?_, 0, by omega, ?_, ?_, fun _ => 32, fun x hx => absurd hx (by omega)⟩
        · rw [en.2.1 1 (by omega) (by decide) (by decide), e1.1 1 (by omega) (by decide) (by decide) (by decide) (by decide) (by decide) (by decide) (by decide)]
          exact h.1.1 j hj
        · rw [en.2.1 0 (by omega) (by decide) (by decide)]; exact e5
        · rw [hk 1 (by decide) (by decide) (by decide)]; exact e7
      obtain ⟨i1, i2⟩ := INV.enter (S' := S') (rf' := n1) (P' := P + m) h e1 e2 e3 (e4.trans ⟨fun k hk' => hk k (by omega) (by omega) (by omega), fun p hp => ha p (by omega) (by omega)⟩) l26 a2 a4 en hb (fun c x hcl hx => by rw [ha 37 (by omega) (by decide)]) (fun x => by
        rw [g8, s72 38 (by omega)]
        by_cases e : x = Ls.length
        · rw [if_pos e, e, pk_us]
        · rw [if_neg e, pk_un e]) (fun p p1 p2 x hx => by rw [ha p (by omega) (by omega)]) (fun p p1 p2 x hx => by rw [ha p (by omega) (by omega)]) (by rw [g2, va_up_at]) (by rw [hk 16 (by decide) (by decide) (by decide)]; exact u16) (by rw [g2, cp_up_ne (by decide)]; exact s7s.1) ⟨w1, by omega⟩ ⟨by omega, by omega⟩ ⟨Or.inl t30, mp, by omega, t31⟩ t32 t33 ev (hk 20 (by decide) (by decide) (by decide)) htx (by rw [en.2.1 23 (by omega) (by decide) (by decide), b5 s60, hk 60 (by decide) (by decide) (by decide)]) (by rw [g2, cp_up_ne (by decide)]; exact s7s.2) ⟨by omega, b10, b11, b12⟩
      exact ⟨nI mp, K', S', l :: Ls, n1, P + m, kcl, mcl, i1, by rw [hk 0 (by decide) (by decide) (by decide)]; exact e6, i2.le (by omega)⟩
end CPHD
